theorem s_l : ∀ n, n < 32 → ((nI n &&& 31).toBitVec.smod 32).toNat = n := by decide +kernel
theorem wb_tb (n : Nat) : (lN n).toBitVec = BitVec.ofNat 64 n := rfl
theorem wb_inj {a b : Int64} (h : a.toBitVec = b.toBitVec) : a = b := Int64.toBitVec_inj.mp h
theorem wb_tn {n : Nat} (h : n < 2 ^ 64) : (lN n).toBitVec.toNat = n := by rw [wb_tb, BitVec.toNat_ofNat, Nat.mod_eq_of_lt h]
theorem wb_c : ∀ k, k < 64 → ((nI k).toInt64 &&& 63) = lN k := by decide +kernel
theorem wb_cu : ∀ k, k < 64 → ((nI k).toInt64.toUInt64 &&& Int64.toUInt64 63) = UInt64.ofNat k := by decide +kernel
theorem wb_sm : ∀ k, k < 64 → (BitVec.ofNat 64 k).smod 64 = BitVec.ofNat 64 k := by decide +kernel
theorem wb_pw {a b : Nat} (h : a ≤ b) : 2 ^ b = 2 ^ a * 2 ^ (b - a) := by rw [← Nat.pow_add]; congr 1; omega
theorem wb_lt2 {a b : Nat} (h : a < b) : 2 ^ a < 2 ^ b := Nat.pow_lt_pow_right (by decide) h
theorem wb_shr {n k : Nat} (hn : n < 2 ^ 64) (hk : k < 64) : ((lN n).toUInt64 >>> ((nI k).toInt64.toUInt64 &&& Int64.toUInt64 63)).toInt64 = lN (n / 2 ^ k) := by
  rw [wb_cu k hk]
  apply wb_inj
  apply BitVec.eq_of_toNat_eq
  show ((lN n).toUInt64 >>> UInt64.ofNat k).toNat = (BitVec.ofNat 64 _).toNat
  have h1 : (UInt64.ofNat k).toNat = k := by
    show (BitVec.ofNat 64 k).toNat = k
    rw [BitVec.toNat_ofNat, Nat.mod_eq_of_lt (by omega)]
  have h2 : (lN n).toUInt64.toNat = n := wb_tn hn
  rw [UInt64.toNat_shiftRight, h1, h2, Nat.mod_eq_of_lt hk, Nat.shiftRight_eq_div_pow, BitVec.toNat_ofNat, Nat.mod_eq_of_lt (Nat.lt_of_le_of_lt (Nat.div_le_self _ _) hn)]
theorem wb_shl (n : Nat) {k : Nat} (hk : k < 64) : lN n <<< ((nI k).toInt64 &&& 63) = lN (n * 2 ^ k) := by
  rw [wb_c k hk]
  apply wb_inj
  rw [Int64.toBitVec_shiftLeft, wb_tb, wb_tb, wb_tb, wb_sm k hk]
  apply BitVec.eq_of_toNat_eq
  rw [BitVec.shiftLeft_eq', BitVec.toNat_shiftLeft, BitVec.toNat_ofNat, BitVec.toNat_ofNat, BitVec.toNat_ofNat, Nat.mod_eq_of_lt (show k < 2 ^ 64 by omega), Nat.shiftLeft_eq, Nat.mul_mod, Nat.mod_mod, ← Nat.mul_mod]
theorem wb_and {a b : Nat} (ha : a < 2 ^ 64) (hb : b < 2 ^ 64) : lN a &&& lN b = lN (a &&& b) := by
  apply wb_inj
  rw [Int64.toBitVec_and, wb_tb, wb_tb, wb_tb]
  apply BitVec.eq_of_toNat_eq
  rw [BitVec.toNat_and, BitVec.toNat_ofNat, BitVec.toNat_ofNat, BitVec.toNat_ofNat, Nat.mod_eq_of_lt ha, Nat.mod_eq_of_lt hb, Nat.mod_eq_of_lt (Nat.and_lt_two_pow _ hb)]
theorem wb_mask {n k : Nat} (hn : n < 2 ^ 64) (hk : k < 64) : lN n &&& lN (2 ^ k - 1) = lN (n % 2 ^ k) := by
  rw [wb_and hn (by have := wb_lt2 hk; omega), Nat.and_two_pow_sub_one_eq_mod]
theorem u_tn {n : Nat} (h : n < 2 ^ 64) : (UInt64.ofNat n).toNat = n := Nat.mod_eq_of_lt h
theorem g_or {k p a b : Nat} (hp : 2 ^ k = p) (ha : a < p) (h : b * p + a < 2 ^ 64) : lN (b * p) ||| lN a = lN (b * p + a) := by
  subst hp
  have h1 : b * 2 ^ k ||| a = b * 2 ^ k + a := by rw [← Nat.shiftLeft_eq, Nat.shiftLeft_add_eq_or_of_lt ha]
  have h3 : UInt64.ofNat (b * 2 ^ k) ||| UInt64.ofNat a = UInt64.ofNat (b * 2 ^ k + a) := UInt64.toNat_inj.mp (by rw [UInt64.toNat_or, u_tn (by omega), u_tn (by omega), u_tn h, h1])
  have h2 := congrArg UInt64.toInt64 h3
  exact h2
/-- the sum of four digits of 16 bits -/
def sd_D (P : Nat) : Nat := P % 65536 + P / 65536 % 65536 + P / 65536 / 65536 % 65536 + P / 65536 / 65536 / 65536 % 65536
theorem sd_D1 {x y : Nat} (h : x % 65536 + y < 65536) : sd_D (x + y) = sd_D x + y := by
  have e1 : (x + y) % 65536 = x % 65536 + y := by omega
  have e2 : (x + y) / 65536 = x / 65536 := by omega
  unfold sd_D
  rw [e1, e2]
  omega
theorem sd_D2 {x : Nat} (h : x < 281474976710656) : sd_D (x * 65536) = sd_D x := by
  have e1 : x * 65536 % 65536 = 0 := by omega
  have e2 : x * 65536 / 65536 = x := by omega
  have e3 : x / 65536 / 65536 / 65536 = 0 := by
    rw [Nat.div_div_eq_div_mul, Nat.div_div_eq_div_mul]
    exact Nat.div_eq_of_lt h
  unfold sd_D
  rw [e1, e2, e3]
  omega
def sd_Gn (Q n : Nat) : Nat := sd_D (Q * 2 ^ ((16 - n % 16) % 16))
theorem sd_Gs1 {Q b t u : Nat} (ht : t = 2 * u) (h : (Q * t) % 65536 + b * u < 65536) : sd_D ((2 * Q + b) * u) = sd_D (Q * t) + b * u := by
  have e : (2 * Q + b) * u = Q * t + b * u := by
    subst ht
    rw [Nat.add_mul, Nat.mul_comm 2 Q, Nat.mul_assoc]
  rw [e, sd_D1 h]
theorem sd_Gs {Q n b : Nat} (hb : b ≤ 1) (hn : n < 64) (hQ : Q < 2 ^ n) : sd_Gn (2 * Q + b) (n + 1) = sd_Gn Q n + b * 2 ^ (15 - n % 16) := by
  unfold sd_Gn
  by_cases r0 : n % 16 = 0
  · have e1 : (n + 1) % 16 = 1 := by omega
    have hQ2 : Q < 281474976710656 := Nat.lt_of_lt_of_le hQ (Nat.le_trans (Nat.pow_le_pow_right (by decide) (show n ≤ 48 by omega)) (by decide))
    rw [e1, r0]
    show sd_D ((2 * Q + b) * 32768) = sd_D (Q * 1) + b * 32768
    rw [sd_Gs1 (t := 65536) (by decide) (by omega), sd_D2 hQ2, Nat.mul_one]
  · have hr : n % 16 < 16 := Nat.mod_lt _ (by decide)
    have hs : (n + 1) % 16 = (n % 16 + 1) % 16 := by omega
    rw [hs]
    generalize n % 16 = r at r0 hr
    have : r = 1 ∨ r = 2 ∨ r = 3 ∨ r = 4 ∨ r = 5 ∨ r = 6 ∨ r = 7 ∨ r = 8 ∨ r = 9 ∨ r = 10 ∨ r = 11 ∨ r = 12 ∨ r = 13 ∨ r = 14 ∨ r = 15 := by omega
    rcases this with rfl | rfl | rfl | rfl | rfl | rfl | rfl | rfl | rfl | rfl | rfl | rfl | rfl | rfl | rfl
    · exact sd_Gs1 (t := 32768) (u := 16384) (by decide) (by omega)
    · exact sd_Gs1 (t := 16384) (u := 8192) (by decide) (by omega)
    · exact sd_Gs1 (t := 8192) (u := 4096) (by decide) (by omega)
    · exact sd_Gs1 (t := 4096) (u := 2048) (by decide) (by omega)
    · exact sd_Gs1 (t := 2048) (u := 1024) (by decide) (by omega)
    · exact sd_Gs1 (t := 1024) (u := 512) (by decide) (by omega)
    · exact sd_Gs1 (t := 512) (u := 256) (by decide) (by omega)
    · exact sd_Gs1 (t := 256) (u := 128) (by decide) (by omega)
    · exact sd_Gs1 (t := 128) (u := 64) (by decide) (by omega)
    · exact sd_Gs1 (t := 64) (u := 32) (by decide) (by omega)
    · exact sd_Gs1 (t := 32) (u := 16) (by decide) (by omega)
    · exact sd_Gs1 (t := 16) (u := 8) (by decide) (by omega)
    · exact sd_Gs1 (t := 8) (u := 4) (by decide) (by omega)
    · exact sd_Gs1 (t := 4) (u := 2) (by decide) (by omega)
    · exact sd_Gs1 (t := 2) (u := 1) (by decide) (by omega)
theorem sd_Dl (P : Nat) : sd_D P ≤ 262140 := by
  unfold sd_D
  omega
def sd_fo (s : Nat) : Nat := s / 65536 + s % 65536
theorem sd_foE {s : Nat} (h : s < 2 ^ 31) : nI s / 65536 + (nI s - nI s / 65536 * 65536) = nI (sd_fo s) := by
  have e2 : nI s - nI s / 65536 * 65536 = nI (s % 65536) := pk_rem (d := 65536) h (by decide) (by decide)
  have e1 : nI s / 65536 = nI (s / 65536) := pk_div (d := 65536) h (by decide) (by decide)
  rw [e2, e1, nI_add]
  rfl
theorem sd_bitN {v r : Nat} (hv : v < 2 ^ 31) (hr : r < 32) : (nI v >>> (nI r &&& 31)) &&& 1 = nI (v / 2 ^ r % 2) := by
  rw [pk_shrN hv (nI r &&& 31) r (s_l r hr)]
  exact pk_andN (Nat.lt_of_le_of_lt (Nat.div_le_self _ _) (by omega)) (m := 1) 1 (by decide)
section
variable {sc oc bt bb da ag lo tp sb sd tk : Int32} {fw fv hv sts ops opn rg kf kk th ens mv mm sps ho pb pz rc mr md mt gp qc qq qe lc tq : Nat → Int32} {tl tt ma ol dr ay gl : Int32} {ta lk go ca cv cm cg ow oq ox sw sa sz sg ra ac ea eb ch ty bi mk yb le gt : Nat → Int32}
def sd_vv (fv : Nat → Int32) (wo f : Nat) : Nat := if f = wo then 0 else (fv f).toNatClampNeg
def sd_qq (fw fv : Nat → Int32) (wo h : Nat) : Nat → Nat
  | 0 => 0
  | i + 1 => sd_qq fw fv wo h i * 2 ^ (fw (4 * h + i)).toNatClampNeg + sd_vv fv wo (4 * h + i)
theorem sd_vvl (hF : sd_F fw fv hv) {wo f : Nat} (hf : f < 28) : sd_vv fv wo f < 2 ^ (fw f).toNatClampNeg := by
  obtain ⟨a, b, h1, h2, h3, h4⟩ := hF.1 f hf
  unfold sd_vv
  rw [h3, nI_clamp (by omega)]
  by_cases z : f = wo
  · rw [if_pos z]; omega
  · have : 2 ^ a ≤ 2 ^ 16 := Nat.pow_le_pow_right (by decide) h1
    rw [if_neg z, h4, nI_clamp (by omega)]; exact h2
theorem sd_pp {q v a b : Nat} (hq : q < 2 ^ a) (hv : v < 2 ^ b) : q * 2 ^ b + v < 2 ^ (a + b) := by
  rw [Nat.pow_add]
  have : (q + 1) * 2 ^ b ≤ 2 ^ a * 2 ^ b := Nat.mul_le_mul_right _ hq
  rw [Nat.add_mul] at this
  omega
theorem sd_qql (hF : sd_F fw fv hv) {wo h : Nat} (hh : h < 6) : ∀ i, i ≤ 4 → sd_qq fw fv wo h i < 2 ^ (sd_tb fw h 0 i)
  | 0, _ => by show 0 < 2 ^ 0; decide
  | i + 1, hi => by
    show _ < 2 ^ (sd_tb fw h 0 i + (fw (4 * h + i)).toNatClampNeg)
    exact sd_pp (sd_qql hF hh i (by omega)) (sd_vvl hF (by omega))
/-- X: the sum behind its folding -/
theorem sx_f119 {post : Int32 → Prop} {s : Nat} (hs : s ≤ 262140) (h : post (65535 - nI (sd_fo (sd_fo s)))) : ∃ n, wX_sumWithout_119 post sc oc bt bb da ag lo tp sb sd tk fw fv hv sts ops opn rg kf kk th ens mv mm sps ho pb pz rc mr md mt gp qc qq qe lc tq n (nI s) 0 := by
  have e3 : sd_fo (sd_fo (sd_fo s)) = sd_fo (sd_fo s) := by unfold sd_fo; omega
  have l1 : sd_fo s < 2 ^ 31 := by unfold sd_fo; omega
  have l2 : sd_fo (sd_fo s) < 2 ^ 31 := by unfold sd_fo; omega
  refine ⟨5, br_f (by decide) ⟨by decide, by decide, nm_r (sd_foE (by omega)) (nm_r (e' := 1) (by decide) ?_)⟩⟩
  refine br_f (by decide) ⟨by decide, by decide, nm_r (sd_foE l1) (nm_r (e' := 2) (by decide) ?_)⟩
  refine br_f (by decide) ⟨by decide, by decide, nm_r (sd_foE l2) (nm_r (e' := 3) (by decide) ?_)⟩
  rw [e3]
  refine br_f (by decide) ⟨by decide, by decide, nm_r (sd_foE l2) (nm_r (e' := 4) (by decide) ?_)⟩
  rw [e3]
  exact br_t (by decide) h
theorem sy_f89 {post : Int32 → Prop} {s : Nat} (hs : s ≤ 262140) (h : post (65535 - nI (sd_fo (sd_fo s)))) : ∃ n, wY_sum_89 post sc oc tl tt bt ma ol tp sb sd tk dr ay gl fw fv hv ta lk go ca cv cm cg opn ow oq ox rg sw sa sz sg ho kf kk ra ac ea eb ch th mv mm ty bi mk rc mr md mt gp yb le qc qe qq tq lc gt n (nI s) := by
  have l1 : sd_fo s < 2 ^ 31 := by unfold sd_fo; omega
  have l2 : sd_fo (sd_fo s) ≤ 65535 := by unfold sd_fo; omega
  refine ⟨3, pk_le s 65535 (fun z => ?_) (fun z => ⟨by decide, by decide, nm_r (sd_foE (by omega)) ?_⟩)⟩
  · have e : sd_fo (sd_fo s) = s := by unfold sd_fo; omega
    rw [e] at h
    exact h
  · refine pk_le (sd_fo s) 65535 (fun z2 => ?_) (fun z2 => ⟨by decide, by decide, nm_r (sd_foE l1) ?_⟩) rfl rfl l1 (by decide)
    · have e : sd_fo (sd_fo s) = sd_fo s := by
        generalize sd_fo s = t at z2
        unfold sd_fo; omega
      rw [e] at h
      exact h
    · exact pk_le (sd_fo (sd_fo s)) 65535 (fun z3 => h) (fun z3 => absurd z3 (by omega)) rfl rfl (by omega) (by decide)
theorem sx_f89 {post : Int32 → Prop} {P : Nat} (hP : P < 2 ^ 64) (h : post (65535 - nI (sd_fo (sd_fo (sd_D P))))) : ∃ n, wX_sumWithout_89 post (lN P) sc oc bt bb da ag lo tp sb sd tk fw fv hv sts ops opn rg kf kk th ens mv mm sps ho pb pz rc mr md mt gp qc qq qe lc tq n 0 0 := by
  have dg : ∀ k : Nat, k < 64 → ((((lN P).toUInt64 >>> ((nI k).toInt64.toUInt64 &&& Int64.toUInt64 63)).toInt64) &&& 65535).toInt32 = nI (P / 2 ^ k % 65536) := by
    intro k hk
    rw [wb_shr hP hk]
    have e : lN (P / 2 ^ k) &&& 65535 = lN (P / 2 ^ k % 2 ^ 16) := wb_mask (k := 16) (Nat.lt_of_le_of_lt (Nat.div_le_self _ _) hP) (by decide)
    rw [e, lN_i]
  refine ⟨5, br_f (by decide) (nm_r (e' := nI (P % 65536)) ?_ (nm_r (e' := 16) (by decide) ?_))⟩
  · have := dg 0 (by decide)
    rw [Nat.pow_zero, Nat.div_one] at this
    have z0 : (0 : Int32) = nI 0 := rfl
    rw [Int32.zero_add, z0]
    exact this
  refine br_f (by decide) (nm_r (e' := nI (P % 65536 + P / 65536 % 65536)) ?_ (nm_r (e' := 32) (by decide) ?_))
  · have e := dg 16 (by decide)
    have e' : ((((lN P).toUInt64 >>> ((16 : Int32).toInt64.toUInt64 &&& Int64.toUInt64 63)).toInt64) &&& 65535).toInt32 = nI (P / 65536 % 65536) := e
    rw [e', nI_add]
  refine br_f (by decide) (nm_r (e' := nI (P % 65536 + P / 65536 % 65536 + P / 65536 / 65536 % 65536)) ?_ (nm_r (e' := 48) (by decide) ?_))
  · have e := dg 32 (by decide)
    have e' : ((((lN P).toUInt64 >>> ((32 : Int32).toInt64.toUInt64 &&& Int64.toUInt64 63)).toInt64) &&& 65535).toInt32 = nI (P / 65536 / 65536 % 65536) := by
      rw [Nat.div_div_eq_div_mul]
      exact e
    rw [e', nI_add]
  refine br_f (by decide) (nm_r (e' := nI (sd_D P)) ?_ (nm_r (e' := 64) (by decide) ?_))
  · have e := dg 48 (by decide)
    have e' : ((((lN P).toUInt64 >>> ((48 : Int32).toInt64.toUInt64 &&& Int64.toUInt64 63)).toInt64) &&& 65535).toInt32 = nI (P / 65536 / 65536 / 65536 % 65536) := by
      rw [Nat.div_div_eq_div_mul, Nat.div_div_eq_div_mul]
      exact e
    rw [e', nI_add]
    rfl
  exact br_t (by decide) (sx_f119 (sd_Dl P) h)
theorem sx_sum {post : Int32 → Prop} (hF : sd_F fw fv hv) {h wo : Nat} (hh : h < 6) (hwo : wo < 28) (hp : post (65535 - nI (sd_fo (sd_fo (sd_Gn (sd_qq fw fv wo h 4) (sd_tb fw h 0 4)))))) : wpX_sumWithout post (sc, oc, bt, bb, da, ag, lo, tp, sb, sd, tk, fw, fv, hv, sts, ops, opn, rg, kf, kk, th, ens, mv, mm, sps, ho, pb, pz, rc, mr, md, mt, gp, qc, qq, qe, lc, tq) (nI h) (nI wo) := by
  have l4 := sd_tbl hF hh
  have q4 := sd_qql (wo := wo) hF hh
  refine sd_lp (fun n i (s : Int64 × Int32) => wX_sumWithout_8 post (nI h) (nI wo) sc oc bt bb da ag lo tp sb sd tk fw fv hv sts ops opn rg kf kk th ens mv mm sps ho pb pz rc mr md mt gp qc qq qe lc tq n s.1 s.2 (nI i)) (fun i => (lN (sd_qq fw fv wo h i), nI (sd_tb fw h 0 i))) 4 0 (by omega) (fun n => br_t (nI_le (a := 4) (b := 4) (Nat.le_refl _) (by decide)) ⟨by decide, by decide, ?_⟩) (fun n i _ hi ih => br_f (nI_ge (b := 4) hi (by decide)) ?_)
  · have t4 := (l4 4 (by omega)).1
    have qq := q4 4 (by omega)
    dsimp only
    generalize sd_tb fw h 0 4 = L at *
    generalize sd_qq fw fv wo h 4 = Q at *
    have e1 : nI L - nI L / 16 * 16 = nI (L % 16) := pk_rem (d := 16) (by omega) (by decide) (by decide)
    have e2 : 16 - nI (L % 16) = nI (16 - L % 16) := pk_sub (a := 16) (by omega)
    have e3 : nI (16 - L % 16) - nI (16 - L % 16) / 16 * 16 = nI ((16 - L % 16) % 16) := pk_rem (d := 16) (by omega) (by decide) (by decide)
    rw [e1, e2, e3, wb_shl Q (by omega)]
    refine nm_e (sx_f89 ?_ hp)
    have e5 : L + (16 - L % 16) % 16 ≤ 64 := by omega
    refine Nat.lt_of_lt_of_le (m := 2 ^ (L + (16 - L % 16) % 16)) ?_ (Nat.pow_le_pow_right (by decide) e5)
    rw [Nat.pow_add]
    exact Nat.mul_lt_mul_of_pos_right qq (Nat.pow_pos (by decide))
  · have e4 : nI h * 4 + nI i = nI (4 * h + i) := (sd_ma h 4 i).trans (by rw [Nat.mul_comm])
    obtain ⟨w, w1, w2, w3⟩ := sd_wi hF (f := 4 * h + i) (by omega)
    have vl := sd_vvl (wo := wo) hF (f := 4 * h + i) (by omega)
    have qi := q4 i (by omega)
    have ti := (l4 i (by omega)).1
    have bd : sd_qq fw fv wo h i * 2 ^ w + sd_vv fv wo (4 * h + i) < 2 ^ 64 := by
      rw [w3] at vl
      exact Nat.lt_of_lt_of_le (sd_pp qi vl) (Nat.pow_le_pow_right (by decide) (by omega))
    have fin : ∀ z0 : Int32, z0 = nI (sd_vv fv wo (4 * h + i)) → wX_sumWithout_48 post (wX_sumWithout_8 post (nI h) (nI wo) sc oc bt bb da ag lo tp sb sd tk fw fv hv sts ops opn rg kf kk th ens mv mm sps ho pb pz rc mr md mt gp qc qq qe lc tq n) (nI h) (nI wo) (nI (sd_tb fw h 0 i)) (nI i) (nI (4 * h + i)) z0 (lN (sd_qq fw fv wo h i) <<< ((nI w).toInt64 &&& 63)) sc oc bt bb da ag lo tp sb sd tk fw fv hv sts ops opn rg kf kk th ens mv mm sps ho pb pz rc mr md mt gp qc qq qe lc tq := by
      intro z0 hz
      rw [wb_shl _ (by omega)]
      have vl2 : sd_vv fv wo (4 * h + i) < 2 ^ 31 := by
        have : 2 ^ w ≤ 2 ^ 16 := Nat.pow_le_pow_right (by decide) w1
        rw [w3] at vl
        omega
      refine nm_r (e' := lN (sd_qq fw fv wo h (i + 1))) ?_ ⟨vp_in_nI (by omega) (by decide), nm_r (e' := nI (sd_tb fw h 0 (i + 1))) ?_ (nm_r (nI_1 i) ih)⟩
      · rw [hz, nI_l vl2]
        show _ = lN (sd_qq fw fv wo h i * 2 ^ (fw (4 * h + i)).toNatClampNeg + sd_vv fv wo (4 * h + i))
        rw [w3] at vl ⊢
        exact g_or rfl vl bd
      · rw [nI_clamp (by omega), w2, nI_add]
        show _ = nI (sd_tb fw h 0 i + (fw (4 * h + i)).toNatClampNeg)
        rw [w3]
    refine nm_r e4 ⟨vp_in_nI (by omega) (by decide), ?_⟩
    rw [nI_clamp (n := 4 * h + i) (by omega), w2]
    refine pk_eq (4 * h + i) wo (fun z => fin 0 ?_) (fun z => ⟨vp_in_nI (by omega) (by decide), fin _ ?_⟩)
    · unfold sd_vv; rw [if_pos z]; rfl
    · unfold sd_vv; rw [if_neg z]
      obtain ⟨a, b, h1, h2, h3, h4⟩ := hF.1 (4 * h + i) (by omega)
      have : 2 ^ a ≤ 2 ^ 16 := Nat.pow_le_pow_right (by decide) h1
      rw [h4, nI_clamp (by omega)]
theorem sd_hb (v r : Nat) : v % 2 ^ (r + 1) = v / 2 ^ r % 2 * 2 ^ r + v % 2 ^ r := by
  rw [Nat.pow_succ, Nat.mod_mul, Nat.mul_comm (2 ^ r), Nat.add_comm]
theorem sy_s31 {post : Int32 → Prop} {J : Int32 → Int32 → Int32 → Prop} {x1 : Int32} {wo f v : Nat} (hf : f < 28) (hwo : wo < 28) (hv' : v < 2 ^ 16) (hv2 : fv f = nI v) :
    ∀ r Q n, r ≤ 16 → n + r ≤ 64 → Q < 2 ^ n → J (nI (sd_Gn (Q * 2 ^ r + sd_vv fv wo f % 2 ^ r) (n + r))) (nI (n + r)) (nI (f + 1)) → wY_sum_31 post J x1 (nI wo) (nI f) sc oc tl tt bt ma ol tp sb sd tk dr ay gl fw fv hv ta lk go ca cv cm cg opn ow oq ox rg sw sa sz sg ho kf kk ra ac ea eb ch th mv mm ty bi mk rc mr md mt gp yb le qc qe qq tq lc gt (r + 1) (nI (sd_Gn Q n)) (nI n) (nI r - 1)
  | 0, Q, n, hr, hn, hQ, h => by
    refine br_t ?_ (nm_r (nI_1 f) ?_)
    · show nI 0 - 1 < 0
      decide
    · rw [Nat.pow_zero, Nat.mul_one, Nat.mod_one, Nat.add_zero, Nat.add_zero] at h
      exact h
  | r + 1, Q, n, hr, hn, hQ, h => by
    have er : nI (r + 1) - 1 = nI r := nI_pred r
    have e16 : nI n - nI n / 16 * 16 = nI (n % 16) := pk_rem (d := 16) (by omega) (by decide) (by decide)
    have e15 : 15 - nI (n % 16) = nI (15 - n % 16) := pk_sub (a := 15) (by omega)
    have em : nI r + (-1) = nI r - 1 := (Int32.sub_eq_add_neg _ _).symm
    have vl : sd_vv fv wo f < 2 ^ 16 := by
      unfold sd_vv
      by_cases z : f = wo
      · rw [if_pos z]; decide
      · rw [if_neg z, hv2, nI_clamp (by omega)]; exact hv'
    have b1 : sd_vv fv wo f / 2 ^ r % 2 ≤ 1 := by omega
    have fin : ∀ z0 : Int32, z0 = nI (sd_vv fv wo f / 2 ^ r % 2) → wY_sum_58 post J (wY_sum_31 post J x1 (nI wo) (nI f) sc oc tl tt bt ma ol tp sb sd tk dr ay gl fw fv hv ta lk go ca cv cm cg opn ow oq ox rg sw sa sz sg ho kf kk ra ac ea eb ch th mv mm ty bi mk rc mr md mt gp yb le qc qe qq tq lc gt (r + 1)) x1 (nI wo) (nI (sd_Gn Q n)) (nI n) (nI f) (nI r) z0 sc oc tl tt bt ma ol tp sb sd tk dr ay gl fw fv hv ta lk go ca cv cm cg opn ow oq ox rg sw sa sz sg ho kf kk ra ac ea eb ch th mv mm ty bi mk rc mr md mt gp yb le qc qe qq tq lc gt := by
      intro z0 hz
      refine ⟨by decide, ?_⟩
      rw [e16, e15, em, hz, pk_shlN (nI (15 - n % 16) &&& 31) (15 - n % 16) (s_l _ (by omega)) ?_]
      · refine nm_r (e' := nI (sd_Gn (2 * Q + sd_vv fv wo f / 2 ^ r % 2) (n + 1))) ?_ (nm_r (nI_1 n) (nm_e (sy_s31 hf hwo hv' hv2 r _ (n + 1) (by omega) (by omega) ?_ ?_)))
        · rw [nI_add, sd_Gs b1 (by omega) hQ]
        · rw [Nat.pow_succ]; omega
        · have e : (2 * Q + sd_vv fv wo f / 2 ^ r % 2) * 2 ^ r + sd_vv fv wo f % 2 ^ r = Q * 2 ^ (r + 1) + sd_vv fv wo f % 2 ^ (r + 1) := by
            rw [sd_hb, Nat.add_mul, Nat.pow_succ, Nat.mul_comm 2 Q, Nat.mul_assoc, Nat.mul_comm 2]
            omega
          have e2 : n + 1 + r = n + (r + 1) := by omega
          rw [e, e2]
          exact h
      · have : 2 ^ (15 - n % 16) ≤ 2 ^ 15 := Nat.pow_le_pow_right (by decide) (by omega)
        have : sd_vv fv wo f / 2 ^ r % 2 * 2 ^ (15 - n % 16) ≤ 1 * 2 ^ 15 := Nat.mul_le_mul b1 this
        omega
    rw [er]
    refine br_f (nI_pos (by omega)) (pk_eq f wo (fun z => fin 0 ?_) (fun z => ⟨vp_in_nI hf (by decide), fin _ ?_⟩))
    · unfold sd_vv; rw [if_pos z, Nat.zero_div]; rfl
    · unfold sd_vv
      rw [if_neg z, nI_clamp (by omega), hv2, nI_clamp (by omega), sd_bitN (by omega) (by omega)]
theorem sy_sum {post : Int32 → Prop} (hF : sd_F fw fv hv) {h wo : Nat} (hh : h < 6) (hwo : wo < 28) (hp : post (65535 - nI (sd_fo (sd_fo (sd_Gn (sd_qq fw fv wo h 4) (sd_tb fw h 0 4)))))) : wpY_sum post (sc, oc, tl, tt, bt, ma, ol, tp, sb, sd, tk, dr, ay, gl, fw, fv, hv, ta, lk, go, ca, cv, cm, cg, opn, ow, oq, ox, rg, sw, sa, sz, sg, ho, kf, kk, ra, ac, ea, eb, ch, th, mv, mm, ty, bi, mk, rc, mr, md, mt, gp, yb, le, qc, qe, qq, tq, lc, gt) (nI h) (nI wo) := by
  have l4 := sd_tbl hF hh
  have q4 := sd_qql (wo := wo) hF hh
  have e4 : 4 * nI h + 4 = nI (4 * h + 4) := sd_am h 4 4
  refine nm_r (pk_mul 4 h) ?_
  have z0 : nI (sd_Gn (sd_qq fw fv wo h 0) (sd_tb fw h 0 0)) = 0 := by
    show nI (sd_Gn 0 0) = 0
    decide
  have main : ∃ n, wY_sum_10 post (nI h) (nI wo) sc oc tl tt bt ma ol tp sb sd tk dr ay gl fw fv hv ta lk go ca cv cm cg opn ow oq ox rg sw sa sz sg ho kf kk ra ac ea eb ch th mv mm ty bi mk rc mr md mt gp yb le qc qe qq tq lc gt n (nI (sd_Gn (sd_qq fw fv wo h 0) (sd_tb fw h 0 0))) (nI (sd_tb fw h 0 0)) (nI (4 * h + 0)) := by
    refine sd_lp (fun n i (s : Int32 × Int32) => wY_sum_10 post (nI h) (nI wo) sc oc tl tt bt ma ol tp sb sd tk dr ay gl fw fv hv ta lk go ca cv cm cg opn ow oq ox rg sw sa sz sg ho kf kk ra ac ea eb ch th mv mm ty bi mk rc mr md mt gp yb le qc qe qq tq lc gt n s.1 s.2 (nI (4 * h + i))) (fun i => (nI (sd_Gn (sd_qq fw fv wo h i) (sd_tb fw h 0 i)), nI (sd_tb fw h 0 i))) 4 0 (by omega) (fun n => br_t ?_ (sy_f89 (sd_Dl _) hp)) (fun n i _ hi ih => br_f ?_ ⟨vp_in_nI (by omega) (by decide), ?_⟩)
    · rw [e4]; exact nI_le (Nat.le_refl _) (by omega)
    · rw [e4]; exact nI_ge (by omega) (by omega)
    · obtain ⟨a, b, h1, h2, h3, h4⟩ := hF.1 (4 * h + i) (by omega)
      have w3 : (fw (4 * h + i)).toNatClampNeg = a := by rw [h3]; exact nI_clamp (by omega)
      have : 2 ^ a ≤ 2 ^ 16 := Nat.pow_le_pow_right (by decide) h1
      have ti := (l4 i (by omega)).1
      have vl := sd_vvl (wo := wo) hF (f := 4 * h + i) (by omega)
      rw [nI_clamp (n := 4 * h + i) (by omega), h3]
      refine nm_e ⟨a + 1, sy_s31 (by omega) hwo (by omega) h4 a (sd_qq fw fv wo h i) (sd_tb fw h 0 i) h1 (by omega) (q4 i (by omega)) ?_⟩
      rw [w3] at vl
      rw [Nat.mod_eq_of_lt vl]
      have ih' : wY_sum_10 post (nI h) (nI wo) sc oc tl tt bt ma ol tp sb sd tk dr ay gl fw fv hv ta lk go ca cv cm cg opn ow oq ox rg sw sa sz sg ho kf kk ra ac ea eb ch th mv mm ty bi mk rc mr md mt gp yb le qc qe qq tq lc gt n (nI (sd_Gn (sd_qq fw fv wo h i * 2 ^ (fw (4 * h + i)).toNatClampNeg + sd_vv fv wo (4 * h + i)) (sd_tb fw h 0 i + (fw (4 * h + i)).toNatClampNeg))) (nI (sd_tb fw h 0 i + (fw (4 * h + i)).toNatClampNeg)) (nI (4 * h + (i + 1))) := ih
      rw [w3] at ih'
      exact ih'
  rw [z0] at main
  exact main
end
