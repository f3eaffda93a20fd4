section
variable {sc oc bt bb da ag lo tp sb sd tk : Int32} {fw fv hv sts ops opn rg kf kk th ens mv mm sps ho pb pz rc mr md mt gp qc qq qe lc tq : Nat → Int32} {tl tt ma ol dr ay gl : Int32} {ta lk go ca cv cm cg ow oq ox sw sa sz sg ra ac ea eb ch ty bi mk yb le gt : Nat → Int32}
/-- bit r, from the left, of a byte -/
def sd_bv (b : Int32) (r : Nat) : Int32 := (b >>> (nI (7 - r) &&& 31)) &&& 1
theorem sd_a1 (x : Int32) : x &&& 1 = 0 ∨ x &&& 1 = 1 := by
  obtain ⟨j, hj, e⟩ := pk_andE x (m := 1) 1 (by decide)
  have : j = 0 ∨ j = 1 := by omega
  rcases this with rfl | rfl
  · exact Or.inl e
  · exact Or.inr e
theorem sd_bv01 (b : Int32) (r : Nat) : sd_bv b r = 0 ∨ sd_bv b r = 1 := sd_a1 _
theorem sx_bit {post : Int32 → Prop} {s i : Nat} (hs : s < 52) (hi : i < 128) (h : post (sd_bv (pb (s * 16 + i / 8)) (i % 8))) : wpX_bitOf post (sc, oc, bt, bb, da, ag, lo, tp, sb, sd, tk, fw, fv, hv, sts, ops, opn, rg, kf, kk, th, ens, mv, mm, sps, ho, pb, pz, rc, mr, md, mt, gp, qc, qq, qe, lc, tq) (nI s) (nI i) := by
  unfold wpX_bitOf
  have e2 : nI i - nI i / 8 * 8 = nI (i % 8) := pk_rem (d := 8) (by omega) (by decide) (by decide)
  have e1 : nI i / 8 = nI (i / 8) := pk_div (d := 8) (by omega) (by decide) (by decide)
  have e3 : 7 - nI (i % 8) = nI (7 - i % 8) := pk_sub (a := 7) (by omega)
  have e4 : nI s * 16 + nI (i / 8) = nI (s * 16 + i / 8) := sd_ma s 16 (i / 8)
  rw [e2, e1, e3, e4, nI_clamp (by omega)]
  exact ⟨by decide, vp_in_nI (by omega) (by decide), by decide, h⟩
theorem sd_acb {bi : Nat → Int32} {b : Nat} : ∀ n : Nat, n ≤ 16 → ∃ v : Nat, v < 2 ^ n ∧ sd_ac bi b n = nI v
  | 0, _ => ⟨0, by decide, rfl⟩
  | n + 1, h => by
    obtain ⟨v, hv, e⟩ := sd_acb (bi := bi) (b := b) n (by omega)
    have e2 : 2 * sd_ac bi b n = nI (2 * v) := by rw [e]; exact pk_mul 2 v
    show ∃ w, w < 2 ^ (n + 1) ∧ 2 * sd_ac bi b n + (if bi (b + n) = 0 then 0 else 1) = nI w
    rw [e2]
    by_cases z : bi (b + n) = 0
    · rw [if_pos z]
      exact ⟨2 * v, by rw [Nat.pow_succ]; omega, Int32.add_zero _⟩
    · rw [if_neg z]
      exact ⟨2 * v + 1, by rw [Nat.pow_succ]; omega, nI_1 _⟩
theorem sx_tb {post : Int32 → SX → Prop} {w b : Nat} (hb : b + w ≤ 128) (hB : ∀ i, i < w → bi (b + i) = sd_bv (pb (784 + (b + i) / 8)) ((b + i) % 8)) (h : post (sd_ac bi b w) (sc, oc, (nI (b + w)), bb, da, ag, lo, tp, sb, sd, tk, fw, fv, hv, sts, ops, opn, rg, kf, kk, th, ens, mv, mm, sps, ho, pb, pz, rc, mr, md, mt, gp, qc, qq, qe, lc, tq)) : wpX_takeBits post (sc, oc, (nI b), bb, da, ag, lo, tp, sb, sd, tk, fw, fv, hv, sts, ops, opn, rg, kf, kk, th, ens, mv, mm, sps, ho, pb, pz, rc, mr, md, mt, gp, qc, qq, qe, lc, tq) (nI w) := by
  unfold wpX_takeBits
  refine sd_lp (fun n i s => wX_takeBits_4 post (nI w) sc oc bb da ag lo tp sb sd tk fw fv hv sts ops opn rg kf kk th ens mv mm sps ho pb pz rc mr md mt gp qc qq qe lc tq n s (nI i) (nI (b + i))) (fun i => sd_ac bi b i) w 0 (by omega) (fun n => br_t (nI_le (Nat.le_refl _) (by omega)) h)
    (fun n i _ hi ih => br_f (nI_ge hi (by omega)) (sx_bit (s := 49) (by omega) (by omega) (nm_r (e' := sd_ac bi b (i + 1)) ?_ (nm_r (nI_1 _) (nm_r (nI_1 _) ih)))))
  show sd_ac bi b i * 2 + sd_bv (pb (784 + (b + i) / 8)) ((b + i) % 8) = 2 * sd_ac bi b i + (if bi (b + i) = 0 then 0 else 1)
  rw [← hB i hi, Int32.mul_comm]
  rcases sd_bv01 (pb (784 + (b + i) / 8)) ((b + i) % 8) with z | z
  · rw [← hB i hi] at z
    rw [z, if_pos rfl]
  · rw [← hB i hi] at z
    rw [z, if_neg sd_10]
theorem sy_tb {post : Int32 → SY → Prop} {J : Int32 → Int32 → (Nat → Int32) → (Nat → Int32) → (Nat → Int32) → (Nat → Int32) → (Nat → Int32) → (Nat → Int32) → (Nat → Int32) → (Nat → Int32) → (Nat → Int32) → (Nat → Int32) → (Nat → Int32) → (Nat → Int32) → (Nat → Int32) → (Nat → Int32) → (Nat → Int32) → (Nat → Int32) → (Nat → Int32) → (Nat → Int32) → (Nat → Int32) → (Nat → Int32) → (Nat → Int32) → (Nat → Int32) → (Nat → Int32) → (Nat → Int32) → (Nat → Int32) → (Nat → Int32) → (Nat → Int32) → (Nat → Int32) → (Nat → Int32) → (Nat → Int32) → (Nat → Int32) → (Nat → Int32) → (Nat → Int32) → (Nat → Int32) → (Nat → Int32) → (Nat → Int32) → (Nat → Int32) → (Nat → Int32) → (Nat → Int32) → (Nat → Int32) → (Nat → Int32) → (Nat → Int32) → (Nat → Int32) → (Nat → Int32) → (Nat → Int32) → (Nat → Int32) → Prop} {x1 : Int32} {f w b : Nat} (hf : f < 28) (hw : fw f = nI w) (hw2 : w ≤ 16) (hb : b + w ≤ 128) (h : J (nI (f + 1)) (nI (b + w)) fw (upd fv f (sd_ac bi b w)) hv ta lk go ca cv cm cg opn ow oq ox rg sw sa sz sg ho kf kk ra ac ea eb ch th mv mm ty bi mk rc mr md mt gp yb le qc qe qq tq lc gt) : ∃ n, wY_takeOut_37 post J x1 (nI f) sc oc tl tt (nI b) ma ol tp sb sd tk dr ay gl fw fv hv ta lk go ca cv cm cg opn ow oq ox rg sw sa sz sg ho kf kk ra ac ea eb ch th mv mm ty bi mk rc mr md mt gp yb le qc qe qq tq lc gt n 0 0 := by
  refine sd_lp (fun n i s => wY_takeOut_37 post J x1 (nI f) sc oc tl tt (nI b) ma ol tp sb sd tk dr ay gl fw fv hv ta lk go ca cv cm cg opn ow oq ox rg sw sa sz sg ho kf kk ra ac ea eb ch th mv mm ty bi mk rc mr md mt gp yb le qc qe qq tq lc gt n s (nI i)) (fun i => sd_ac bi b i) w 0 (by omega) (fun n => ⟨vp_in_nI hf (by decide), ?_⟩)
    (fun n i _ hi ih => ⟨vp_in_nI hf (by decide), ?_⟩)
  · rw [nI_clamp (n := f) (by omega), hw]
    refine br_t (nI_le (Nat.le_refl _) (by omega)) ⟨vp_in_nI hf (by decide), nm_e ⟨vp_in_nI hf (by decide), nm_r (nI_add b w) (nm_r (nI_1 f) h)⟩⟩
  · rw [nI_clamp (n := f) (by omega), hw, nI_add b i, nI_clamp (n := b + i) (by omega)]
    refine br_f (nI_ge hi (by omega)) ⟨vp_in_nI (by omega) (by decide), br_c (fun z => nm_r (e' := sd_ac bi b (i + 1)) ?_ (nm_r (nI_1 _) ih)) (fun z => nm_r (e' := sd_ac bi b (i + 1)) ?_ (nm_r (nI_1 _) ih))⟩
    · show 2 * sd_ac bi b i + 0 = 2 * sd_ac bi b i + (if bi (b + i) = 0 then 0 else 1)
      rw [if_pos z]
    · show 2 * sd_ac bi b i + 1 = 2 * sd_ac bi b i + (if bi (b + i) = 0 then 0 else 1)
      rw [if_neg z]
/-- where the i-th field of header h begins, from bit b on -/
def sd_tb (fw : Nat → Int32) (h b : Nat) : Nat → Nat
  | 0 => b
  | i + 1 => sd_tb fw h b i + (fw (4 * h + i)).toNatClampNeg
/-- the values with i fields of header h taken -/
def sd_tf (fw bi fv : Nat → Int32) (h b : Nat) : Nat → (Nat → Int32)
  | 0 => fv
  | i + 1 => upd (sd_tf fw bi fv h b i) (4 * h + i) (sd_ac bi (sd_tb fw h b i) (fw (4 * h + i)).toNatClampNeg)
theorem sd_tba {h b : Nat} : ∀ i, sd_tb fw h b i = b + sd_tb fw h 0 i
  | 0 => rfl
  | i + 1 => by
    show sd_tb fw h b i + _ = b + (sd_tb fw h 0 i + _)
    rw [sd_tba i]; omega
theorem sd_wi (hF : sd_F fw fv hv) {f : Nat} (hf : f < 28) : ∃ w : Nat, w ≤ 16 ∧ fw f = nI w ∧ (fw f).toNatClampNeg = w := by
  obtain ⟨a, b, h1, h2, h3, h4⟩ := hF.1 f hf
  exact ⟨a, h1, h3, by rw [h3]; exact nI_clamp (by omega)⟩
theorem sd_tb1 (hF : sd_F fw fv hv) {h : Nat} (hh : h < 6) : ∀ i, i ≤ 4 → sd_tb fw h 0 i ≤ 16 * i
  | 0, _ => Nat.le_refl _
  | i + 1, hi => by
    obtain ⟨w, h1, _, h3⟩ := sd_wi hF (f := 4 * h + i) (by omega)
    have := sd_tb1 hF hh i (by omega)
    show sd_tb fw h 0 i + (fw (4 * h + i)).toNatClampNeg ≤ _
    omega
theorem sd_tb2 {h i : Nat} : ∀ j, i ≤ j → sd_tb fw h 0 i ≤ sd_tb fw h 0 j
  | 0, hi => by
    have : i = 0 := by omega
    subst this
    exact Nat.le_refl _
  | j + 1, hi => by
    by_cases e : i = j + 1
    · subst e; exact Nat.le_refl _
    · have := sd_tb2 (h := h) j (show i ≤ j by omega)
      show _ ≤ sd_tb fw h 0 j + _
      omega
theorem sd_tbl (hF : sd_F fw fv hv) {h : Nat} (hh : h < 6) : ∀ i, i ≤ 4 → sd_tb fw h 0 i ≤ 16 * i ∧ (i < 4 → sd_tb fw h 0 i + (fw (4 * h + i)).toNatClampNeg ≤ sd_tb fw h 0 4) :=
  fun i hi => ⟨sd_tb1 hF hh i hi, fun hi => sd_tb2 (i := i + 1) 4 (by omega)⟩
theorem sd_Fu (hF : sd_F fw fv hv) {f w v : Nat} (hw : fw f = nI w) (hw2 : w ≤ 16) (hv' : v < 2 ^ w) {x : Int32} (hx : x = nI v) : sd_F fw (upd fv f x) hv := by
  refine ⟨fun g hg => ?_, hF.2.1, hF.2.2⟩
  obtain ⟨a, b, h1, h2, h3, h4⟩ := hF.1 g hg
  by_cases e : g = f
  · subst e
    exact ⟨w, v, hw2, hv', hw, by rw [pk_us, hx]⟩
  · exact ⟨a, b, h1, h2, h3, by rw [pk_un e, h4]⟩
theorem sd_Fh (hF : sd_F fw fv hv) {h : Nat} {x : Int32} (hx : x = 0 ∨ x = 1) : sd_F fw fv (upd hv h x) := by
  refine ⟨hF.1, hF.2.1, fun g hg => ?_⟩
  by_cases e : g = h
  · subst e; rw [pk_us]; exact hx
  · rw [pk_un e]; exact hF.2.2 g hg
theorem sd_Ftf (hF : sd_F fw fv hv) {h b : Nat} (hh : h < 6) : ∀ i, i ≤ 4 → sd_F fw (sd_tf fw bi fv h b i) hv
  | 0, _ => hF
  | i + 1, hi => by
    obtain ⟨w, h1, h2, h3⟩ := sd_wi hF (f := 4 * h + i) (by omega)
    obtain ⟨v, hv, e⟩ := sd_acb (bi := bi) (b := sd_tb fw h b i) w h1
    refine sd_Fu (sd_Ftf hF hh i (by omega)) h2 h1 hv ?_
    rw [h3, e]
-- X: takeHeader
theorem sx_th {post : Int32 → SX → Prop} {h b Z : Nat} (hF : sd_F fw fv hv) (hh : h < 6) (hZ : Z ≤ 16) (hz : pz 49 = nI Z) (hB : ∀ i, i < 8 * Z → bi i = sd_bv (pb (784 + i / 8)) (i % 8)) (hb : b ≤ 8 * Z)
    (h1 : b + sd_tb fw h 0 4 ≤ 8 * Z → post 1 (sc, oc, (nI (b + sd_tb fw h 0 4)), bb, da, ag, lo, tp, sb, sd, tk, fw, (sd_tf fw bi fv h b 4), (upd hv h 1), sts, ops, opn, rg, kf, kk, th, ens, mv, mm, sps, ho, pb, pz, rc, mr, md, mt, gp, qc, qq, qe, lc, tq)) (h0 : ¬ b + sd_tb fw h 0 4 ≤ 8 * Z → post 0 (sc, oc, (nI b), bb, da, ag, lo, tp, sb, sd, tk, fw, fv, hv, sts, ops, opn, rg, kf, kk, th, ens, mv, mm, sps, ho, pb, pz, rc, mr, md, mt, gp, qc, qq, qe, lc, tq)) : wpX_takeHeader post (sc, oc, (nI b), bb, da, ag, lo, tp, sb, sd, tk, fw, fv, hv, sts, ops, opn, rg, kf, kk, th, ens, mv, mm, sps, ho, pb, pz, rc, mr, md, mt, gp, qc, qq, qe, lc, tq) (nI h) := by
  have l4 := sd_tbl hF hh
  refine br_f (sd_ne (by omega)) (nm_r ((pk_mul h 4).trans (by rw [Nat.mul_comm])) ?_)
  have e4 : nI (4 * h) + 4 = nI (4 * h + 4) := nI_add _ 4
  have e8 : nI Z * 8 = nI (8 * Z) := (pk_mul Z 8).trans (by rw [Nat.mul_comm])
  refine sd_lp (fun n i s => wX_takeHeader_16 post (nI h) (nI (4 * h)) sc oc (nI b) bb da ag lo tp sb sd tk fw fv hv sts ops opn rg kf kk th ens mv mm sps ho pb pz rc mr md mt gp qc qq qe lc tq n s (nI (4 * h + i))) (fun i => nI (sd_tb fw h 0 i)) 4 0 (by omega) (fun n => br_t ?_ ?_) (fun n i _ hi ih => br_f ?_ ⟨vp_in_nI (by omega) (by decide), ?_⟩)
  · rw [e4]; exact nI_le (Nat.le_refl _) (by omega)
  · rw [nI_add, hz, e8]
    refine pk_le (b + sd_tb fw h 0 4) (8 * Z) (fun z => ?_) (fun z => h0 (by omega)) rfl rfl (by have := (l4 4 (by omega)).1; omega) (by omega)
    refine sd_lp (fun n i (s : Nat → Int32) => wX_takeHeader_64 post (nI h) (nI (4 * h)) n (nI (4 * h + i)) sc oc (nI (sd_tb fw h b i)) bb da ag lo tp sb sd tk fw s hv sts ops opn rg kf kk th ens mv mm sps ho pb pz rc mr md mt gp qc qq qe lc tq) (fun i => sd_tf fw bi fv h b i) 4 0 (by omega) (fun n => br_t ?_ (sd_st h rfl hh (by decide) ?_)) (fun n i _ hi ih => br_f ?_ ⟨vp_in_nI (by omega) (by decide), ?_⟩)
    · rw [e4]; exact nI_le (Nat.le_refl _) (by omega)
    · rw [sd_b1, sd_tba]; exact h1 z
    · rw [e4]; exact nI_ge (by omega) (by omega)
    · obtain ⟨w, w1, w2, w3⟩ := sd_wi hF (f := 4 * h + i) (by omega)
      rw [nI_clamp (n := 4 * h + i) (by omega), w2]
      have g := (l4 i (by omega)).2 hi
      have t := sd_tba (fw := fw) (h := h) (b := b) i
      refine sx_tb (bi := bi) (by omega) (fun j hj => hB _ (by omega)) ⟨vp_in_nI (by omega) (by decide), nm_e (nm_r (nI_1 _) ?_)⟩
      have ih' : wX_takeHeader_64 post (nI h) (nI (4 * h)) n (nI (4 * h + (i + 1))) sc oc (nI (sd_tb fw h b i + (fw (4 * h + i)).toNatClampNeg)) bb da ag lo tp sb sd tk fw (upd (sd_tf fw bi fv h b i) (4 * h + i) (sd_ac bi (sd_tb fw h b i) (fw (4 * h + i)).toNatClampNeg)) hv sts ops opn rg kf kk th ens mv mm sps ho pb pz rc mr md mt gp qc qq qe lc tq := ih
      rw [w3] at ih'
      exact ih'
  · rw [e4]; exact nI_ge (by omega) (by omega)
  · obtain ⟨w, w1, w2, w3⟩ := sd_wi hF (f := 4 * h + i) (by omega)
    rw [nI_clamp (n := 4 * h + i) (by omega), w2]
    refine nm_r (e' := nI (sd_tb fw h 0 (i + 1))) ?_ (nm_r (nI_1 _) ih)
    show _ = nI (sd_tb fw h 0 i + (fw (4 * h + i)).toNatClampNeg)
    rw [w3, nI_add]
theorem sy_th {post : Int32 → SY → Prop} {h b Z : Nat} (hF : sd_F fw fv hv) (hh : h < 6) (hZ : Z ≤ 16) (hb : b ≤ 8 * Z)
    (h1 : b + sd_tb fw h 0 4 ≤ 8 * Z → post 1 (sc, oc, tl, (nI (8 * Z)), (nI (b + sd_tb fw h 0 4)), ma, ol, tp, sb, sd, tk, dr, ay, gl, fw, (sd_tf fw bi fv h b 4), (upd hv h 1), ta, lk, go, ca, cv, cm, cg, opn, ow, oq, ox, rg, sw, sa, sz, sg, ho, kf, kk, ra, ac, ea, eb, ch, th, mv, mm, ty, bi, mk, rc, mr, md, mt, gp, yb, le, qc, qe, qq, tq, lc, gt)) (h0 : ¬ b + sd_tb fw h 0 4 ≤ 8 * Z → post 0 (sc, oc, tl, (nI (8 * Z)), (nI b), ma, ol, tp, sb, sd, tk, dr, ay, gl, fw, fv, hv, ta, lk, go, ca, cv, cm, cg, opn, ow, oq, ox, rg, sw, sa, sz, sg, ho, kf, kk, ra, ac, ea, eb, ch, th, mv, mm, ty, bi, mk, rc, mr, md, mt, gp, yb, le, qc, qe, qq, tq, lc, gt)) : wpY_takeOut post (sc, oc, tl, (nI (8 * Z)), (nI b), ma, ol, tp, sb, sd, tk, dr, ay, gl, fw, fv, hv, ta, lk, go, ca, cv, cm, cg, opn, ow, oq, ox, rg, sw, sa, sz, sg, ho, kf, kk, ra, ac, ea, eb, ch, th, mv, mm, ty, bi, mk, rc, mr, md, mt, gp, yb, le, qc, qe, qq, tq, lc, gt) (nI h) := by
  have l4 := sd_tbl hF hh
  have e0 : 4 * nI h = nI (4 * h) := pk_mul 4 h
  have e1 : 4 * nI h + 1 = nI (4 * h + 1) := sd_am h 4 1
  have e2 : 4 * nI h + 2 = nI (4 * h + 2) := sd_am h 4 2
  have e3 : 4 * nI h + 3 = nI (4 * h + 3) := sd_am h 4 3
  have e4 : 4 * nI h + 4 = nI (4 * h + 4) := sd_am h 4 4
  unfold wpY_takeOut wpY_bitsOf
  refine ⟨?_, ?_, ?_, ?_, ?_⟩
  · rw [e0]; exact vp_in_nI (by omega) (by decide)
  · rw [e1]; exact vp_in_nI (by omega) (by decide)
  · rw [e2]; exact vp_in_nI (by omega) (by decide)
  · rw [e3]; exact vp_in_nI (by omega) (by decide)
  obtain ⟨w0, a0, b0, c0⟩ := sd_wi hF (f := 4 * h) (by omega)
  obtain ⟨w1, a1, b1, c1⟩ := sd_wi hF (f := 4 * h + 1) (by omega)
  obtain ⟨w2, a2, b2, c2⟩ := sd_wi hF (f := 4 * h + 2) (by omega)
  obtain ⟨w3, a3, b3, c3⟩ := sd_wi hF (f := 4 * h + 3) (by omega)
  have s4 : sd_tb fw h 0 4 = w0 + w1 + w2 + w3 := by
    show 0 + (fw (4 * h + 0)).toNatClampNeg + (fw (4 * h + 1)).toNatClampNeg + (fw (4 * h + 2)).toNatClampNeg + (fw (4 * h + 3)).toNatClampNeg = _
    rw [Nat.add_zero, c0, c1, c2, c3]; omega
  rw [e1, e2, e3, e0, nI_clamp (n := 4 * h) (by omega), nI_clamp (n := 4 * h + 1) (by omega), nI_clamp (n := 4 * h + 2) (by omega), nI_clamp (n := 4 * h + 3) (by omega), b0, b1, b2, b3, nI_add, nI_add, nI_add, ← s4, nI_add]
  refine pk_le (b + sd_tb fw h 0 4) (8 * Z) (fun z => nm_e ?_) (fun z => h0 (by omega)) rfl rfl (by have := (l4 4 (by omega)).1; omega) (by omega)
  refine sd_lp (fun n i (s : Nat → Int32) => wY_takeOut_23 post (nI h) sc oc tl (nI (8 * Z)) ma ol tp sb sd tk dr ay gl n (nI (4 * h + i)) (nI (sd_tb fw h b i)) fw s hv ta lk go ca cv cm cg opn ow oq ox rg sw sa sz sg ho kf kk ra ac ea eb ch th mv mm ty bi mk rc mr md mt gp yb le qc qe qq tq lc gt) (fun i => sd_tf fw bi fv h b i) 4 0 (by omega) (fun n => br_t ?_ (sd_st h rfl hh (by decide) ?_)) (fun n i _ hi ih => br_f ?_ ?_)
  · rw [e4]; exact nI_le (Nat.le_refl _) (by omega)
  · rw [sd_b1, sd_tba]; exact h1 z
  · rw [e4]; exact nI_ge (by omega) (by omega)
  · obtain ⟨w, w1, w2, w3⟩ := sd_wi hF (f := 4 * h + i) (by omega)
    have g := (l4 i (by omega)).2 hi
    have t := sd_tba (fw := fw) (h := h) (b := b) i
    refine sy_tb (w := w) (by omega) w2 w1 (by omega) ?_
    have ih' : wY_takeOut_23 post (nI h) sc oc tl (nI (8 * Z)) ma ol tp sb sd tk dr ay gl n (nI (4 * h + (i + 1))) (nI (sd_tb fw h b i + (fw (4 * h + i)).toNatClampNeg)) fw (upd (sd_tf fw bi fv h b i) (4 * h + i) (sd_ac bi (sd_tb fw h b i) (fw (4 * h + i)).toNatClampNeg)) hv ta lk go ca cv cm cg opn ow oq ox rg sw sa sz sg ho kf kk ra ac ea eb ch th mv mm ty bi mk rc mr md mt gp yb le qc qe qq tq lc gt := ih
    rw [w3] at ih'
    exact ih'
end
