section
variable {sc oc bt bb da ag lo tp sb sd tk : Int32} {fw fv hv sts ops opn rg kf kk th ens mv mm sps ho pb pz rc mr md mt gp qc qq qe lc tq : Nat → Int32} {tl tt ma ol dr ay gl : Int32} {ta lk go ca cv cm cg ow oq ox sw sa sz sg ra ac ea eb ch ty bi mk yb le gt : Nat → Int32}
def sd_zh (fv : Nat → Int32) (h : Nat) : Nat → (Nat → Int32)
  | 0 => fv
  | i + 1 => upd (sd_zh fv h i) (4 * h + i) 0
theorem sd_Fzh (hF : sd_F fw fv hv) {h : Nat} (hh : h < 6) : ∀ i, i ≤ 4 → sd_F fw (sd_zh fv h i) hv
  | 0, _ => hF
  | i + 1, hi => by
    obtain ⟨w, h1, h2, h3⟩ := sd_wi hF (f := 4 * h + i) (by omega)
    exact sd_Fu (sd_Fzh hF hh i (by omega)) h2 h1 (Nat.pow_pos (by decide)) rfl
theorem sx_addh {post : SX → Prop} {h : Nat} (hh : h < 6) (h0 : hv h = 0 → post (sc, oc, bt, bb, da, ag, lo, tp, sb, sd, tk, fw, (sd_zh fv h 4), (upd hv h 1), sts, ops, opn, rg, kf, kk, th, ens, mv, mm, sps, ho, pb, pz, rc, mr, md, mt, gp, qc, qq, qe, lc, tq)) (h1 : ¬ hv h = 0 → post (sc, oc, bt, bb, da, ag, lo, tp, sb, sd, tk, fw, fv, hv, sts, ops, opn, rg, kf, kk, th, ens, mv, mm, sps, ho, pb, pz, rc, mr, md, mt, gp, qc, qq, qe, lc, tq)) : wpX_addHeader post (sc, oc, bt, bb, da, ag, lo, tp, sb, sd, tk, fw, fv, hv, sts, ops, opn, rg, kf, kk, th, ens, mv, mm, sps, ho, pb, pz, rc, mr, md, mt, gp, qc, qq, qe, lc, tq) (nI h) := by
  refine ⟨vp_in_nI hh (by decide), ?_⟩
  rw [nI_clamp (by omega), sd_b1]
  refine br_c (fun z => ⟨vp_in_nI hh (by decide), nm_e ?_⟩) h1
  refine sd_lp (fun n i s => wX_addHeader_19 post (nI h) sc oc bt bb da ag lo tp sb sd tk n (nI i) fw s (upd hv h 1) sts ops opn rg kf kk th ens mv mm sps ho pb pz rc mr md mt gp qc qq qe lc tq) (fun i => sd_zh fv h i) 4 0 (by omega) (fun n => br_t (nI_le (a := 4) (b := 4) (Nat.le_refl _) (by omega)) (h0 z))
    (fun n i _ hi ih => br_f (nI_ge (b := 4) hi (by omega)) (sd_st (4 * h + i) ((sd_ma h 4 i).trans (by rw [Nat.mul_comm])) (by omega) (by decide) (nm_r (nI_1 i) ih)))
theorem sy_addh {post : SY → Prop} {h : Nat} (hh : h < 6) (h0 : hv h = 0 → post (sc, oc, tl, tt, bt, ma, ol, tp, sb, sd, tk, dr, ay, gl, fw, (sd_zh fv h 4), (upd hv h 1), ta, lk, go, ca, cv, cm, cg, opn, ow, oq, ox, rg, sw, sa, sz, sg, ho, kf, kk, ra, ac, ea, eb, ch, th, mv, mm, ty, bi, mk, rc, mr, md, mt, gp, yb, le, qc, qe, qq, tq, lc, gt)) (h1 : ¬ hv h = 0 → post (sc, oc, tl, tt, bt, ma, ol, tp, sb, sd, tk, dr, ay, gl, fw, fv, (upd hv h 1), ta, lk, go, ca, cv, cm, cg, opn, ow, oq, ox, rg, sw, sa, sz, sg, ho, kf, kk, ra, ac, ea, eb, ch, th, mv, mm, ty, bi, mk, rc, mr, md, mt, gp, yb, le, qc, qe, qq, tq, lc, gt)) : wpY_header post (sc, oc, tl, tt, bt, ma, ol, tp, sb, sd, tk, dr, ay, gl, fw, fv, hv, ta, lk, go, ca, cv, cm, cg, opn, ow, oq, ox, rg, sw, sa, sz, sg, ho, kf, kk, ra, ac, ea, eb, ch, th, mv, mm, ty, bi, mk, rc, mr, md, mt, gp, yb, le, qc, qe, qq, tq, lc, gt) (nI h) 1 := by
  have e4 : 4 * nI h + 4 = nI (4 * h + 4) := sd_am h 4 4
  refine nm_r (pk_mul 4 h) ?_
  by_cases z : hv h = 0
  · refine sd_lp (fun n i s => wY_header_4 post (nI h) 1 sc oc tl tt bt ma ol tp sb sd tk dr ay gl n (nI (4 * h + i)) fw s hv ta lk go ca cv cm cg opn ow oq ox rg sw sa sz sg ho kf kk ra ac ea eb ch th mv mm ty bi mk rc mr md mt gp yb le qc qe qq tq lc gt) (fun i => sd_zh fv h i) 4 0 (by omega) (fun n => br_t ?_ (sd_st h rfl hh (by decide) ?_)) (fun n i _ hi ih => br_f ?_ (br_f sd_10 ⟨vp_in_nI hh (by decide), br_t ?_ (sd_st (4 * h + i) rfl (by omega) (by decide) (nm_r (nI_1 _) ih))⟩))
    · rw [e4]; exact nI_le (Nat.le_refl _) (by omega)
    · rw [sd_b1]; exact h0 z
    · rw [e4]; exact nI_ge (by omega) (by omega)
    · rw [nI_clamp (by omega)]; exact z
  · refine ⟨1, br_f (by rw [e4]; exact nI_ge (by omega) (by omega)) (br_f sd_10 ⟨vp_in_nI hh (by decide), br_f (by rw [nI_clamp (by omega)]; exact z) (sd_st h rfl hh (by decide) ?_)⟩)⟩
    rw [sd_b1]; exact h1 z
theorem sy_remh {post : SY → Prop} {h : Nat} (hh : h < 6) (h0 : post (sc, oc, tl, tt, bt, ma, ol, tp, sb, sd, tk, dr, ay, gl, fw, fv, (upd hv h 0), ta, lk, go, ca, cv, cm, cg, opn, ow, oq, ox, rg, sw, sa, sz, sg, ho, kf, kk, ra, ac, ea, eb, ch, th, mv, mm, ty, bi, mk, rc, mr, md, mt, gp, yb, le, qc, qe, qq, tq, lc, gt)) : wpY_header post (sc, oc, tl, tt, bt, ma, ol, tp, sb, sd, tk, dr, ay, gl, fw, fv, hv, ta, lk, go, ca, cv, cm, cg, opn, ow, oq, ox, rg, sw, sa, sz, sg, ho, kf, kk, ra, ac, ea, eb, ch, th, mv, mm, ty, bi, mk, rc, mr, md, mt, gp, yb, le, qc, qe, qq, tq, lc, gt) (nI h) 0 := by
  have e4 : 4 * nI h + 4 = nI (4 * h + 4) := sd_am h 4 4
  refine nm_r (pk_mul 4 h) ⟨1, br_f (by rw [e4]; exact nI_ge (by omega) (by omega)) (br_t rfl (sd_st h rfl hh (by decide) ?_))⟩
  rw [sd_b0]; exact h0
theorem sx_meas {post : Int32 → SX → Prop} {x Z : Nat} (hx : x < 4) (hz : pz 49 = nI Z) (h0 : nI Z ≤ mt x → post 0 (sc, oc, bt, bb, da, ag, lo, tp, sb, sd, tk, fw, fv, hv, sts, ops, opn, rg, kf, kk, th, ens, mv, mm, sps, ho, pb, pz, rc, mr, md, (upd mt x (mt x - nI Z)), gp, qc, qq, qe, lc, tq)) (h1 : ¬ nI Z ≤ mt x → post 1 (sc, oc, bt, bb, da, ag, lo, tp, sb, sd, tk, fw, fv, hv, sts, ops, opn, rg, kf, kk, th, ens, mv, mm, sps, ho, pb, pz, rc, mr, md, mt, gp, qc, qq, qe, lc, tq)) : wpX_measure post (sc, oc, bt, bb, da, ag, lo, tp, sb, sd, tk, fw, fv, hv, sts, ops, opn, rg, kf, kk, th, ens, mv, mm, sps, ho, pb, pz, rc, mr, md, mt, gp, qc, qq, qe, lc, tq) (nI x) := by
  refine ⟨vp_in_nI hx (by decide), ?_⟩
  rw [nI_clamp (by omega), hz]
  exact br_c (fun z => ⟨vp_in_nI hx (by decide), vp_in_nI hx (by decide), nm_e (h0 z)⟩) h1
theorem sy_meas {post : Int32 → SY → Prop} {x Z : Nat} (hx : x < 4) (hZ : Z ≤ 16) (h0 : nI Z ≤ mt x → post 0 (sc, oc, tl, (nI (8 * Z)), bt, ma, ol, tp, sb, sd, tk, dr, ay, gl, fw, fv, hv, ta, lk, go, ca, cv, cm, cg, opn, ow, oq, ox, rg, sw, sa, sz, sg, ho, kf, kk, ra, ac, ea, eb, ch, th, mv, mm, ty, bi, mk, rc, mr, md, (upd mt x (mt x - nI Z)), gp, yb, le, qc, qe, qq, tq, lc, gt)) (h1 : ¬ nI Z ≤ mt x → post 1 (sc, oc, tl, (nI (8 * Z)), bt, ma, ol, tp, sb, sd, tk, dr, ay, gl, fw, fv, hv, ta, lk, go, ca, cv, cm, cg, opn, ow, oq, ox, rg, sw, sa, sz, sg, ho, kf, kk, ra, ac, ea, eb, ch, th, mv, mm, ty, bi, mk, rc, mr, md, mt, gp, yb, le, qc, qe, qq, tq, lc, gt)) : wpY_meter post (sc, oc, tl, (nI (8 * Z)), bt, ma, ol, tp, sb, sd, tk, dr, ay, gl, fw, fv, hv, ta, lk, go, ca, cv, cm, cg, opn, ow, oq, ox, rg, sw, sa, sz, sg, ho, kf, kk, ra, ac, ea, eb, ch, th, mv, mm, ty, bi, mk, rc, mr, md, mt, gp, yb, le, qc, qe, qq, tq, lc, gt) (nI x) := by
  have e : nI (8 * Z) / 8 = nI Z := (pk_div (d := 8) (by omega) (by decide) (by decide)).trans (by congr 1; omega)
  refine ⟨vp_in_nI hx (by decide), by decide, ?_⟩
  rw [nI_clamp (by omega), e]
  exact br_c (fun z => ⟨vp_in_nI hx (by decide), by decide, vp_in_nI hx (by decide), nm_e (h0 z)⟩) h1
theorem sd_o0 {a i N Z c f x : Nat} {p q : Int32} (hF : sd_F fw fv hv) (hO : sd_O ops opn ow oq ox) (hZ : Z ≤ 16) (hz : pz 49 = nI Z) (ha : a < 8) (hi : i < N) (hN : N ≤ 5) (hw : ow (5 * a + i) = nI 0) (hf : oq (5 * a + i) = nI f) (hf2 : f < 28) : ∃ (da' ag' : Int32) (fv' hv' rg' mt' : Nat → Int32), sd_F fw fv' hv' ∧ (∀ (post : SX → Prop) (n : Nat), wX_doAction_11 post (nI a) p q (nI N) n (nI (i + 1)) sc oc bt bb da' ag' lo tp sb sd tk fw fv' hv' sts ops opn rg' kf kk th ens mv mm sps ho pb pz rc mr md mt' gp qc qq qe lc tq → wX_doAction_11 post (nI a) p q (nI N) (n + 1) (nI i) sc oc bt bb da ag lo tp sb sd tk fw fv hv sts ops opn rg kf kk th ens mv mm sps ho pb pz rc mr md mt gp qc qq qe lc tq) ∧ (∀ post : SY → Prop, post (sc, oc, tl, (nI (8 * Z)), bt, ma, ol, tp, sb, sd, tk, da', ag', gl, fw, fv', hv', ta, lk, go, ca, cv, cm, cg, opn, ow, oq, ox, rg', sw, sa, sz, sg, ho, kf, kk, ra, ac, ea, eb, ch, th, mv, mm, ty, bi, mk, rc, mr, md, mt', gp, yb, le, qc, qe, qq, tq, lc, gt) → wpY_operate post (sc, oc, tl, (nI (8 * Z)), bt, ma, ol, tp, sb, sd, tk, da, ag, gl, fw, fv, hv, ta, lk, go, ca, cv, cm, cg, opn, ow, oq, ox, rg, sw, sa, sz, sg, ho, kf, kk, ra, ac, ea, eb, ch, th, mv, mm, ty, bi, mk, rc, mr, md, mt, gp, yb, le, qc, qe, qq, tq, lc, gt) (nI (5 * a + i)) p q) := by
  obtain ⟨g0, g1, g2, _⟩ := hO.2 (5 * a + i) (by omega)
  have ek : (nI a * 5 + nI i) * 3 = nI ((5 * a + i) * 3) := by
    have e1 : nI a * 5 + nI i = nI (5 * a + i) := (sd_ma a 5 i).trans (by rw [Nat.mul_comm])
    rw [e1]
    exact pk_mul _ 3
  have e1 : nI ((5 * a + i) * 3) + 1 = nI ((5 * a + i) * 3 + 1) := nI_add _ 1
  have e2 : nI ((5 * a + i) * 3) + 2 = nI ((5 * a + i) * 3 + 2) := nI_add _ 2
  have i0 : vp_in (nI ((5 * a + i) * 3)) 120 := vp_in_nI (by omega) (by decide)
  have i1 : vp_in (nI ((5 * a + i) * 3) + 1) 120 := by rw [e1]; exact vp_in_nI (by omega) (by decide)
  have i2 : vp_in (nI ((5 * a + i) * 3) + 2) 120 := by rw [e2]; exact vp_in_nI (by omega) (by decide)
  have v0 : ops (nI ((5 * a + i) * 3)).toNatClampNeg = ow (5 * a + i) := by rw [nI_clamp (by omega)]; exact g0
  have v1 : ops (nI ((5 * a + i) * 3) + 1).toNatClampNeg = oq (5 * a + i) := by rw [e1, nI_clamp (by omega)]; exact g1
  have v2 : ops (nI ((5 * a + i) * 3) + 2).toNatClampNeg = ox (5 * a + i) := by rw [e2, nI_clamp (by omega)]; exact g2
  have w0 : vp_in (nI (5 * a + i)) 40 := vp_in_nI (by omega) (by decide)
  have cn : ¬ nI N ≤ nI i := nI_ge hi (by omega)
  have u1 : oq (nI (5 * a + i)).toNatClampNeg = oq (5 * a + i) := by rw [nI_clamp (by omega)]
  have u2 : ox (nI (5 * a + i)).toNatClampNeg = ox (5 * a + i) := by rw [nI_clamp (by omega)]
  have u0 : ow (nI (5 * a + i)).toNatClampNeg = ow (5 * a + i) := by rw [nI_clamp (by omega)]
  refine ⟨da, ag, upd fv f (sd_pv (fw f) (ox (5 * a + i))), hv, rg, mt, sd_Fp hF hf2 _, fun post n hp => ?_, fun post hp => ?_⟩
  ·
    refine br_f cn (nm_r ek ⟨i1, nm_r (v1.trans hf) ⟨i2, nm_r v2 ⟨i0, nm_r (v0.trans hw) (br_t (by decide) (?_))⟩⟩⟩)
    unfold wX_doAction_192
    rw [v0, hw]
    refine ⟨i0, br_f (by decide) (br_f (by decide) (br_t rfl (?_)))⟩
    exact sx_put hf2 (nm_r (nI_1 i) hp)
  · refine ⟨w0, nm_r (u1.trans hf) ⟨w0, nm_r u2 ⟨w0, nm_r (u0.trans hw) (br_f (by decide) (br_f (by decide) (br_t rfl (?_))))⟩⟩⟩
    exact sy_put hf2 hp
theorem sd_o1 {a i N Z c f x : Nat} {p q : Int32} (hF : sd_F fw fv hv) (hO : sd_O ops opn ow oq ox) (hZ : Z ≤ 16) (hz : pz 49 = nI Z) (ha : a < 8) (hi : i < N) (hN : N ≤ 5) (hw : ow (5 * a + i) = nI 1) (hf : oq (5 * a + i) = nI f) (hf2 : f < 28) : ∃ (da' ag' : Int32) (fv' hv' rg' mt' : Nat → Int32), sd_F fw fv' hv' ∧ (∀ (post : SX → Prop) (n : Nat), wX_doAction_11 post (nI a) p q (nI N) n (nI (i + 1)) sc oc bt bb da' ag' lo tp sb sd tk fw fv' hv' sts ops opn rg' kf kk th ens mv mm sps ho pb pz rc mr md mt' gp qc qq qe lc tq → wX_doAction_11 post (nI a) p q (nI N) (n + 1) (nI i) sc oc bt bb da ag lo tp sb sd tk fw fv hv sts ops opn rg kf kk th ens mv mm sps ho pb pz rc mr md mt gp qc qq qe lc tq) ∧ (∀ post : SY → Prop, post (sc, oc, tl, (nI (8 * Z)), bt, ma, ol, tp, sb, sd, tk, da', ag', gl, fw, fv', hv', ta, lk, go, ca, cv, cm, cg, opn, ow, oq, ox, rg', sw, sa, sz, sg, ho, kf, kk, ra, ac, ea, eb, ch, th, mv, mm, ty, bi, mk, rc, mr, md, mt', gp, yb, le, qc, qe, qq, tq, lc, gt) → wpY_operate post (sc, oc, tl, (nI (8 * Z)), bt, ma, ol, tp, sb, sd, tk, da, ag, gl, fw, fv, hv, ta, lk, go, ca, cv, cm, cg, opn, ow, oq, ox, rg, sw, sa, sz, sg, ho, kf, kk, ra, ac, ea, eb, ch, th, mv, mm, ty, bi, mk, rc, mr, md, mt, gp, yb, le, qc, qe, qq, tq, lc, gt) (nI (5 * a + i)) p q) := by
  obtain ⟨g0, g1, g2, _⟩ := hO.2 (5 * a + i) (by omega)
  have ek : (nI a * 5 + nI i) * 3 = nI ((5 * a + i) * 3) := by
    have e1 : nI a * 5 + nI i = nI (5 * a + i) := (sd_ma a 5 i).trans (by rw [Nat.mul_comm])
    rw [e1]
    exact pk_mul _ 3
  have e1 : nI ((5 * a + i) * 3) + 1 = nI ((5 * a + i) * 3 + 1) := nI_add _ 1
  have e2 : nI ((5 * a + i) * 3) + 2 = nI ((5 * a + i) * 3 + 2) := nI_add _ 2
  have i0 : vp_in (nI ((5 * a + i) * 3)) 120 := vp_in_nI (by omega) (by decide)
  have i1 : vp_in (nI ((5 * a + i) * 3) + 1) 120 := by rw [e1]; exact vp_in_nI (by omega) (by decide)
  have i2 : vp_in (nI ((5 * a + i) * 3) + 2) 120 := by rw [e2]; exact vp_in_nI (by omega) (by decide)
  have v0 : ops (nI ((5 * a + i) * 3)).toNatClampNeg = ow (5 * a + i) := by rw [nI_clamp (by omega)]; exact g0
  have v1 : ops (nI ((5 * a + i) * 3) + 1).toNatClampNeg = oq (5 * a + i) := by rw [e1, nI_clamp (by omega)]; exact g1
  have v2 : ops (nI ((5 * a + i) * 3) + 2).toNatClampNeg = ox (5 * a + i) := by rw [e2, nI_clamp (by omega)]; exact g2
  have w0 : vp_in (nI (5 * a + i)) 40 := vp_in_nI (by omega) (by decide)
  have cn : ¬ nI N ≤ nI i := nI_ge hi (by omega)
  have u1 : oq (nI (5 * a + i)).toNatClampNeg = oq (5 * a + i) := by rw [nI_clamp (by omega)]
  have u2 : ox (nI (5 * a + i)).toNatClampNeg = ox (5 * a + i) := by rw [nI_clamp (by omega)]
  have u0 : ow (nI (5 * a + i)).toNatClampNeg = ow (5 * a + i) := by rw [nI_clamp (by omega)]
  by_cases z : ox (5 * a + i) = 0
  · refine ⟨da, ag, upd fv f (sd_pv (fw f) p), hv, rg, mt, sd_Fp hF hf2 _, fun post n hp => ?_, fun post hp => ?_⟩
    · exact br_f cn (nm_r ek ⟨i1, nm_r (v1.trans hf) ⟨i2, nm_r v2 ⟨i0, nm_r (v0.trans hw) (br_f (by decide) (br_f (by decide) (br_t rfl (br_t z (sx_put hf2 (nm_r (nI_1 i) hp))))))⟩⟩⟩)
    · exact ⟨w0, nm_r (u1.trans hf) ⟨w0, nm_r u2 ⟨w0, nm_r (u0.trans hw) (br_f (by decide) (br_f (by decide) (br_f (by decide) (br_t rfl (br_t z (sy_put hf2 hp))))))⟩⟩⟩
  · refine ⟨da, ag, upd fv f (sd_pv (fw f) q), hv, rg, mt, sd_Fp hF hf2 _, fun post n hp => ?_, fun post hp => ?_⟩
    · exact br_f cn (nm_r ek ⟨i1, nm_r (v1.trans hf) ⟨i2, nm_r v2 ⟨i0, nm_r (v0.trans hw) (br_f (by decide) (br_f (by decide) (br_t rfl (br_f z (sx_put hf2 (nm_r (nI_1 i) hp))))))⟩⟩⟩)
    · exact ⟨w0, nm_r (u1.trans hf) ⟨w0, nm_r u2 ⟨w0, nm_r (u0.trans hw) (br_f (by decide) (br_f (by decide) (br_f (by decide) (br_t rfl (br_f z (sy_put hf2 hp))))))⟩⟩⟩
theorem sd_o2 {a i N Z c f x : Nat} {p q : Int32} (hF : sd_F fw fv hv) (hO : sd_O ops opn ow oq ox) (hZ : Z ≤ 16) (hz : pz 49 = nI Z) (ha : a < 8) (hi : i < N) (hN : N ≤ 5) (hw : ow (5 * a + i) = nI 2) (hf : oq (5 * a + i) = nI f) (hf2 : f < 28) (hx : ox (5 * a + i) = nI x) (hx2 : x < 28) : ∃ (da' ag' : Int32) (fv' hv' rg' mt' : Nat → Int32), sd_F fw fv' hv' ∧ (∀ (post : SX → Prop) (n : Nat), wX_doAction_11 post (nI a) p q (nI N) n (nI (i + 1)) sc oc bt bb da' ag' lo tp sb sd tk fw fv' hv' sts ops opn rg' kf kk th ens mv mm sps ho pb pz rc mr md mt' gp qc qq qe lc tq → wX_doAction_11 post (nI a) p q (nI N) (n + 1) (nI i) sc oc bt bb da ag lo tp sb sd tk fw fv hv sts ops opn rg kf kk th ens mv mm sps ho pb pz rc mr md mt gp qc qq qe lc tq) ∧ (∀ post : SY → Prop, post (sc, oc, tl, (nI (8 * Z)), bt, ma, ol, tp, sb, sd, tk, da', ag', gl, fw, fv', hv', ta, lk, go, ca, cv, cm, cg, opn, ow, oq, ox, rg', sw, sa, sz, sg, ho, kf, kk, ra, ac, ea, eb, ch, th, mv, mm, ty, bi, mk, rc, mr, md, mt', gp, yb, le, qc, qe, qq, tq, lc, gt) → wpY_operate post (sc, oc, tl, (nI (8 * Z)), bt, ma, ol, tp, sb, sd, tk, da, ag, gl, fw, fv, hv, ta, lk, go, ca, cv, cm, cg, opn, ow, oq, ox, rg, sw, sa, sz, sg, ho, kf, kk, ra, ac, ea, eb, ch, th, mv, mm, ty, bi, mk, rc, mr, md, mt, gp, yb, le, qc, qe, qq, tq, lc, gt) (nI (5 * a + i)) p q) := by
  obtain ⟨g0, g1, g2, _⟩ := hO.2 (5 * a + i) (by omega)
  have ek : (nI a * 5 + nI i) * 3 = nI ((5 * a + i) * 3) := by
    have e1 : nI a * 5 + nI i = nI (5 * a + i) := (sd_ma a 5 i).trans (by rw [Nat.mul_comm])
    rw [e1]
    exact pk_mul _ 3
  have e1 : nI ((5 * a + i) * 3) + 1 = nI ((5 * a + i) * 3 + 1) := nI_add _ 1
  have e2 : nI ((5 * a + i) * 3) + 2 = nI ((5 * a + i) * 3 + 2) := nI_add _ 2
  have i0 : vp_in (nI ((5 * a + i) * 3)) 120 := vp_in_nI (by omega) (by decide)
  have i1 : vp_in (nI ((5 * a + i) * 3) + 1) 120 := by rw [e1]; exact vp_in_nI (by omega) (by decide)
  have i2 : vp_in (nI ((5 * a + i) * 3) + 2) 120 := by rw [e2]; exact vp_in_nI (by omega) (by decide)
  have v0 : ops (nI ((5 * a + i) * 3)).toNatClampNeg = ow (5 * a + i) := by rw [nI_clamp (by omega)]; exact g0
  have v1 : ops (nI ((5 * a + i) * 3) + 1).toNatClampNeg = oq (5 * a + i) := by rw [e1, nI_clamp (by omega)]; exact g1
  have v2 : ops (nI ((5 * a + i) * 3) + 2).toNatClampNeg = ox (5 * a + i) := by rw [e2, nI_clamp (by omega)]; exact g2
  have w0 : vp_in (nI (5 * a + i)) 40 := vp_in_nI (by omega) (by decide)
  have cn : ¬ nI N ≤ nI i := nI_ge hi (by omega)
  have u1 : oq (nI (5 * a + i)).toNatClampNeg = oq (5 * a + i) := by rw [nI_clamp (by omega)]
  have u2 : ox (nI (5 * a + i)).toNatClampNeg = ox (5 * a + i) := by rw [nI_clamp (by omega)]
  have u0 : ow (nI (5 * a + i)).toNatClampNeg = ow (5 * a + i) := by rw [nI_clamp (by omega)]
  refine ⟨da, ag, upd fv f (sd_pv (fw f) (fv x)), hv, rg, mt, sd_Fp hF hf2 _, fun post n hp => ?_, fun post hp => ?_⟩
  ·
    refine br_f cn (nm_r ek ⟨i1, nm_r (v1.trans hf) ⟨i2, nm_r (v2.trans hx) ⟨i0, nm_r (v0.trans hw) (br_f (by decide) (br_f (by decide) (br_f (by decide) (br_t rfl (?_)))))⟩⟩⟩)
    unfold wX_doAction_192
    rw [v0, hw]
    refine ⟨i0, br_f (by decide) (br_f (by decide) (br_f (by decide) (br_f (by decide) (br_t rfl (?_)))))⟩
    rw [nI_clamp (n := x) (by omega)]
    exact ⟨vp_in_nI (by omega) (by decide), nm_e (sx_put hf2 (nm_r (nI_1 i) hp))⟩
  · refine ⟨w0, nm_r (u1.trans hf) ⟨w0, nm_r (u2.trans hx) ⟨w0, nm_r (u0.trans hw) (br_f (by decide) (br_f (by decide) (br_f (by decide) (br_f (by decide) (br_t rfl (?_))))))⟩⟩⟩
    rw [nI_clamp (n := x) (by omega)]
    exact ⟨vp_in_nI (by omega) (by decide), sy_put hf2 hp⟩
theorem sd_o3 {a i N Z c f x : Nat} {p q : Int32} (hF : sd_F fw fv hv) (hO : sd_O ops opn ow oq ox) (hZ : Z ≤ 16) (hz : pz 49 = nI Z) (ha : a < 8) (hi : i < N) (hN : N ≤ 5) (hw : ow (5 * a + i) = nI 3) (hf : oq (5 * a + i) = nI f) (hf2 : f < 28) (hx : ox (5 * a + i) = nI x) (hx2 : x < 28) : ∃ (da' ag' : Int32) (fv' hv' rg' mt' : Nat → Int32), sd_F fw fv' hv' ∧ (∀ (post : SX → Prop) (n : Nat), wX_doAction_11 post (nI a) p q (nI N) n (nI (i + 1)) sc oc bt bb da' ag' lo tp sb sd tk fw fv' hv' sts ops opn rg' kf kk th ens mv mm sps ho pb pz rc mr md mt' gp qc qq qe lc tq → wX_doAction_11 post (nI a) p q (nI N) (n + 1) (nI i) sc oc bt bb da ag lo tp sb sd tk fw fv hv sts ops opn rg kf kk th ens mv mm sps ho pb pz rc mr md mt gp qc qq qe lc tq) ∧ (∀ post : SY → Prop, post (sc, oc, tl, (nI (8 * Z)), bt, ma, ol, tp, sb, sd, tk, da', ag', gl, fw, fv', hv', ta, lk, go, ca, cv, cm, cg, opn, ow, oq, ox, rg', sw, sa, sz, sg, ho, kf, kk, ra, ac, ea, eb, ch, th, mv, mm, ty, bi, mk, rc, mr, md, mt', gp, yb, le, qc, qe, qq, tq, lc, gt) → wpY_operate post (sc, oc, tl, (nI (8 * Z)), bt, ma, ol, tp, sb, sd, tk, da, ag, gl, fw, fv, hv, ta, lk, go, ca, cv, cm, cg, opn, ow, oq, ox, rg, sw, sa, sz, sg, ho, kf, kk, ra, ac, ea, eb, ch, th, mv, mm, ty, bi, mk, rc, mr, md, mt, gp, yb, le, qc, qe, qq, tq, lc, gt) (nI (5 * a + i)) p q) := by
  obtain ⟨g0, g1, g2, _⟩ := hO.2 (5 * a + i) (by omega)
  have ek : (nI a * 5 + nI i) * 3 = nI ((5 * a + i) * 3) := by
    have e1 : nI a * 5 + nI i = nI (5 * a + i) := (sd_ma a 5 i).trans (by rw [Nat.mul_comm])
    rw [e1]
    exact pk_mul _ 3
  have e1 : nI ((5 * a + i) * 3) + 1 = nI ((5 * a + i) * 3 + 1) := nI_add _ 1
  have e2 : nI ((5 * a + i) * 3) + 2 = nI ((5 * a + i) * 3 + 2) := nI_add _ 2
  have i0 : vp_in (nI ((5 * a + i) * 3)) 120 := vp_in_nI (by omega) (by decide)
  have i1 : vp_in (nI ((5 * a + i) * 3) + 1) 120 := by rw [e1]; exact vp_in_nI (by omega) (by decide)
  have i2 : vp_in (nI ((5 * a + i) * 3) + 2) 120 := by rw [e2]; exact vp_in_nI (by omega) (by decide)
  have v0 : ops (nI ((5 * a + i) * 3)).toNatClampNeg = ow (5 * a + i) := by rw [nI_clamp (by omega)]; exact g0
  have v1 : ops (nI ((5 * a + i) * 3) + 1).toNatClampNeg = oq (5 * a + i) := by rw [e1, nI_clamp (by omega)]; exact g1
  have v2 : ops (nI ((5 * a + i) * 3) + 2).toNatClampNeg = ox (5 * a + i) := by rw [e2, nI_clamp (by omega)]; exact g2
  have w0 : vp_in (nI (5 * a + i)) 40 := vp_in_nI (by omega) (by decide)
  have cn : ¬ nI N ≤ nI i := nI_ge hi (by omega)
  have u1 : oq (nI (5 * a + i)).toNatClampNeg = oq (5 * a + i) := by rw [nI_clamp (by omega)]
  have u2 : ox (nI (5 * a + i)).toNatClampNeg = ox (5 * a + i) := by rw [nI_clamp (by omega)]
  have u0 : ow (nI (5 * a + i)).toNatClampNeg = ow (5 * a + i) := by rw [nI_clamp (by omega)]
  refine ⟨da, ag, upd fv f (sd_pv (fw f) (fv f + fv x)), hv, rg, mt, sd_Fp hF hf2 _, fun post n hp => ?_, fun post hp => ?_⟩
  ·
    refine br_f cn (nm_r ek ⟨i1, nm_r (v1.trans hf) ⟨i2, nm_r (v2.trans hx) ⟨i0, nm_r (v0.trans hw) (br_f (by decide) (br_f (by decide) (br_f (by decide) (br_f (by decide) (br_t rfl (?_))))))⟩⟩⟩)
    unfold wX_doAction_192
    rw [v0, hw]
    refine ⟨i0, br_f (by decide) (br_f (by decide) (br_f (by decide) (br_f (by decide) (br_f (by decide) (br_t rfl (?_))))))⟩
    rw [nI_clamp (n := x) (by omega), nI_clamp (n := f) (by omega)]
    exact ⟨vp_in_nI (by omega) (by decide), vp_in_nI (by omega) (by decide), nm_e (sx_put hf2 (nm_r (nI_1 i) hp))⟩
  · refine ⟨w0, nm_r (u1.trans hf) ⟨w0, nm_r (u2.trans hx) ⟨w0, nm_r (u0.trans hw) (br_f (by decide) (br_f (by decide) (br_f (by decide) (br_f (by decide) (br_f (by decide) (br_t rfl (?_)))))))⟩⟩⟩
    rw [nI_clamp (n := x) (by omega), nI_clamp (n := f) (by omega)]
    exact ⟨vp_in_nI (by omega) (by decide), vp_in_nI (by omega) (by decide), sy_put hf2 hp⟩
theorem sd_o4 {a i N Z c f x : Nat} {p q : Int32} (hF : sd_F fw fv hv) (hO : sd_O ops opn ow oq ox) (hZ : Z ≤ 16) (hz : pz 49 = nI Z) (ha : a < 8) (hi : i < N) (hN : N ≤ 5) (hw : ow (5 * a + i) = nI 4) (hf : oq (5 * a + i) = nI f) (hf2 : f < 28) (hx : ox (5 * a + i) = nI x) (hx2 : x < 28) : ∃ (da' ag' : Int32) (fv' hv' rg' mt' : Nat → Int32), sd_F fw fv' hv' ∧ (∀ (post : SX → Prop) (n : Nat), wX_doAction_11 post (nI a) p q (nI N) n (nI (i + 1)) sc oc bt bb da' ag' lo tp sb sd tk fw fv' hv' sts ops opn rg' kf kk th ens mv mm sps ho pb pz rc mr md mt' gp qc qq qe lc tq → wX_doAction_11 post (nI a) p q (nI N) (n + 1) (nI i) sc oc bt bb da ag lo tp sb sd tk fw fv hv sts ops opn rg kf kk th ens mv mm sps ho pb pz rc mr md mt gp qc qq qe lc tq) ∧ (∀ post : SY → Prop, post (sc, oc, tl, (nI (8 * Z)), bt, ma, ol, tp, sb, sd, tk, da', ag', gl, fw, fv', hv', ta, lk, go, ca, cv, cm, cg, opn, ow, oq, ox, rg', sw, sa, sz, sg, ho, kf, kk, ra, ac, ea, eb, ch, th, mv, mm, ty, bi, mk, rc, mr, md, mt', gp, yb, le, qc, qe, qq, tq, lc, gt) → wpY_operate post (sc, oc, tl, (nI (8 * Z)), bt, ma, ol, tp, sb, sd, tk, da, ag, gl, fw, fv, hv, ta, lk, go, ca, cv, cm, cg, opn, ow, oq, ox, rg, sw, sa, sz, sg, ho, kf, kk, ra, ac, ea, eb, ch, th, mv, mm, ty, bi, mk, rc, mr, md, mt, gp, yb, le, qc, qe, qq, tq, lc, gt) (nI (5 * a + i)) p q) := by
  obtain ⟨g0, g1, g2, _⟩ := hO.2 (5 * a + i) (by omega)
  have ek : (nI a * 5 + nI i) * 3 = nI ((5 * a + i) * 3) := by
    have e1 : nI a * 5 + nI i = nI (5 * a + i) := (sd_ma a 5 i).trans (by rw [Nat.mul_comm])
    rw [e1]
    exact pk_mul _ 3
  have e1 : nI ((5 * a + i) * 3) + 1 = nI ((5 * a + i) * 3 + 1) := nI_add _ 1
  have e2 : nI ((5 * a + i) * 3) + 2 = nI ((5 * a + i) * 3 + 2) := nI_add _ 2
  have i0 : vp_in (nI ((5 * a + i) * 3)) 120 := vp_in_nI (by omega) (by decide)
  have i1 : vp_in (nI ((5 * a + i) * 3) + 1) 120 := by rw [e1]; exact vp_in_nI (by omega) (by decide)
  have i2 : vp_in (nI ((5 * a + i) * 3) + 2) 120 := by rw [e2]; exact vp_in_nI (by omega) (by decide)
  have v0 : ops (nI ((5 * a + i) * 3)).toNatClampNeg = ow (5 * a + i) := by rw [nI_clamp (by omega)]; exact g0
  have v1 : ops (nI ((5 * a + i) * 3) + 1).toNatClampNeg = oq (5 * a + i) := by rw [e1, nI_clamp (by omega)]; exact g1
  have v2 : ops (nI ((5 * a + i) * 3) + 2).toNatClampNeg = ox (5 * a + i) := by rw [e2, nI_clamp (by omega)]; exact g2
  have w0 : vp_in (nI (5 * a + i)) 40 := vp_in_nI (by omega) (by decide)
  have cn : ¬ nI N ≤ nI i := nI_ge hi (by omega)
  have u1 : oq (nI (5 * a + i)).toNatClampNeg = oq (5 * a + i) := by rw [nI_clamp (by omega)]
  have u2 : ox (nI (5 * a + i)).toNatClampNeg = ox (5 * a + i) := by rw [nI_clamp (by omega)]
  have u0 : ow (nI (5 * a + i)).toNatClampNeg = ow (5 * a + i) := by rw [nI_clamp (by omega)]
  refine ⟨da, ag, upd fv f (sd_pv (fw f) (fv f - fv x)), hv, rg, mt, sd_Fp hF hf2 _, fun post n hp => ?_, fun post hp => ?_⟩
  ·
    refine br_f cn (nm_r ek ⟨i1, nm_r (v1.trans hf) ⟨i2, nm_r (v2.trans hx) ⟨i0, nm_r (v0.trans hw) (br_f (by decide) (br_f (by decide) (br_f (by decide) (br_f (by decide) (br_f (by decide) (br_t rfl (?_)))))))⟩⟩⟩)
    unfold wX_doAction_192
    rw [v0, hw]
    refine ⟨i0, br_f (by decide) (br_f (by decide) (br_f (by decide) (br_f (by decide) (br_f (by decide) (br_f (by decide) (br_t rfl (?_)))))))⟩
    rw [nI_clamp (n := x) (by omega), nI_clamp (n := f) (by omega)]
    exact ⟨vp_in_nI (by omega) (by decide), vp_in_nI (by omega) (by decide), nm_e (sx_put hf2 (nm_r (nI_1 i) hp))⟩
  · refine ⟨w0, nm_r (u1.trans hf) ⟨w0, nm_r (u2.trans hx) ⟨w0, nm_r (u0.trans hw) (br_f (by decide) (br_f (by decide) (br_f (by decide) (br_f (by decide) (br_f (by decide) (br_f (by decide) (br_t rfl (?_))))))))⟩⟩⟩
    rw [nI_clamp (n := x) (by omega), nI_clamp (n := f) (by omega)]
    exact ⟨vp_in_nI (by omega) (by decide), vp_in_nI (by omega) (by decide), sy_put hf2 hp⟩
theorem sd_o5 {a i N Z c f x : Nat} {p q : Int32} (hF : sd_F fw fv hv) (hO : sd_O ops opn ow oq ox) (hZ : Z ≤ 16) (hz : pz 49 = nI Z) (ha : a < 8) (hi : i < N) (hN : N ≤ 5) (hw : ow (5 * a + i) = nI 5) (hf : oq (5 * a + i) = nI f) (hf2 : f < 28) (hx : ox (5 * a + i) = nI x) (hx2 : x < 28) : ∃ (da' ag' : Int32) (fv' hv' rg' mt' : Nat → Int32), sd_F fw fv' hv' ∧ (∀ (post : SX → Prop) (n : Nat), wX_doAction_11 post (nI a) p q (nI N) n (nI (i + 1)) sc oc bt bb da' ag' lo tp sb sd tk fw fv' hv' sts ops opn rg' kf kk th ens mv mm sps ho pb pz rc mr md mt' gp qc qq qe lc tq → wX_doAction_11 post (nI a) p q (nI N) (n + 1) (nI i) sc oc bt bb da ag lo tp sb sd tk fw fv hv sts ops opn rg kf kk th ens mv mm sps ho pb pz rc mr md mt gp qc qq qe lc tq) ∧ (∀ post : SY → Prop, post (sc, oc, tl, (nI (8 * Z)), bt, ma, ol, tp, sb, sd, tk, da', ag', gl, fw, fv', hv', ta, lk, go, ca, cv, cm, cg, opn, ow, oq, ox, rg', sw, sa, sz, sg, ho, kf, kk, ra, ac, ea, eb, ch, th, mv, mm, ty, bi, mk, rc, mr, md, mt', gp, yb, le, qc, qe, qq, tq, lc, gt) → wpY_operate post (sc, oc, tl, (nI (8 * Z)), bt, ma, ol, tp, sb, sd, tk, da, ag, gl, fw, fv, hv, ta, lk, go, ca, cv, cm, cg, opn, ow, oq, ox, rg, sw, sa, sz, sg, ho, kf, kk, ra, ac, ea, eb, ch, th, mv, mm, ty, bi, mk, rc, mr, md, mt, gp, yb, le, qc, qe, qq, tq, lc, gt) (nI (5 * a + i)) p q) := by
  obtain ⟨g0, g1, g2, _⟩ := hO.2 (5 * a + i) (by omega)
  have ek : (nI a * 5 + nI i) * 3 = nI ((5 * a + i) * 3) := by
    have e1 : nI a * 5 + nI i = nI (5 * a + i) := (sd_ma a 5 i).trans (by rw [Nat.mul_comm])
    rw [e1]
    exact pk_mul _ 3
  have e1 : nI ((5 * a + i) * 3) + 1 = nI ((5 * a + i) * 3 + 1) := nI_add _ 1
  have e2 : nI ((5 * a + i) * 3) + 2 = nI ((5 * a + i) * 3 + 2) := nI_add _ 2
  have i0 : vp_in (nI ((5 * a + i) * 3)) 120 := vp_in_nI (by omega) (by decide)
  have i1 : vp_in (nI ((5 * a + i) * 3) + 1) 120 := by rw [e1]; exact vp_in_nI (by omega) (by decide)
  have i2 : vp_in (nI ((5 * a + i) * 3) + 2) 120 := by rw [e2]; exact vp_in_nI (by omega) (by decide)
  have v0 : ops (nI ((5 * a + i) * 3)).toNatClampNeg = ow (5 * a + i) := by rw [nI_clamp (by omega)]; exact g0
  have v1 : ops (nI ((5 * a + i) * 3) + 1).toNatClampNeg = oq (5 * a + i) := by rw [e1, nI_clamp (by omega)]; exact g1
  have v2 : ops (nI ((5 * a + i) * 3) + 2).toNatClampNeg = ox (5 * a + i) := by rw [e2, nI_clamp (by omega)]; exact g2
  have w0 : vp_in (nI (5 * a + i)) 40 := vp_in_nI (by omega) (by decide)
  have cn : ¬ nI N ≤ nI i := nI_ge hi (by omega)
  have u1 : oq (nI (5 * a + i)).toNatClampNeg = oq (5 * a + i) := by rw [nI_clamp (by omega)]
  have u2 : ox (nI (5 * a + i)).toNatClampNeg = ox (5 * a + i) := by rw [nI_clamp (by omega)]
  have u0 : ow (nI (5 * a + i)).toNatClampNeg = ow (5 * a + i) := by rw [nI_clamp (by omega)]
  refine ⟨da, ag, upd fv f (sd_pv (fw f) (fv f ^^^ fv x)), hv, rg, mt, sd_Fp hF hf2 _, fun post n hp => ?_, fun post hp => ?_⟩
  ·
    refine br_f cn (nm_r ek ⟨i1, nm_r (v1.trans hf) ⟨i2, nm_r (v2.trans hx) ⟨i0, nm_r (v0.trans hw) (br_f (by decide) (br_f (by decide) (br_f (by decide) (br_f (by decide) (br_f (by decide) (br_f (by decide) (br_t rfl (?_))))))))⟩⟩⟩)
    unfold wX_doAction_192
    rw [v0, hw]
    refine ⟨i0, br_f (by decide) (br_f (by decide) (br_f (by decide) (br_f (by decide) (br_f (by decide) (br_f (by decide) (br_f (by decide) (br_t rfl (?_))))))))⟩
    rw [nI_clamp (n := x) (by omega), nI_clamp (n := f) (by omega)]
    exact ⟨vp_in_nI (by omega) (by decide), vp_in_nI (by omega) (by decide), nm_e (sx_put hf2 (nm_r (nI_1 i) hp))⟩
  · refine ⟨w0, nm_r (u1.trans hf) ⟨w0, nm_r (u2.trans hx) ⟨w0, nm_r (u0.trans hw) (br_f (by decide) (br_f (by decide) (br_f (by decide) (br_f (by decide) (br_f (by decide) (br_f (by decide) (br_f (by decide) (br_t rfl (?_)))))))))⟩⟩⟩
    rw [nI_clamp (n := x) (by omega), nI_clamp (n := f) (by omega)]
    exact ⟨vp_in_nI (by omega) (by decide), vp_in_nI (by omega) (by decide), sy_put hf2 hp⟩
theorem sd_o6 {a i N Z c f x : Nat} {p q : Int32} (hF : sd_F fw fv hv) (hO : sd_O ops opn ow oq ox) (hZ : Z ≤ 16) (hz : pz 49 = nI Z) (ha : a < 8) (hi : i < N) (hN : N ≤ 5) (hw : ow (5 * a + i) = nI 6) (hf : oq (5 * a + i) = nI f) (hf2 : f < 6) : ∃ (da' ag' : Int32) (fv' hv' rg' mt' : Nat → Int32), sd_F fw fv' hv' ∧ (∀ (post : SX → Prop) (n : Nat), wX_doAction_11 post (nI a) p q (nI N) n (nI (i + 1)) sc oc bt bb da' ag' lo tp sb sd tk fw fv' hv' sts ops opn rg' kf kk th ens mv mm sps ho pb pz rc mr md mt' gp qc qq qe lc tq → wX_doAction_11 post (nI a) p q (nI N) (n + 1) (nI i) sc oc bt bb da ag lo tp sb sd tk fw fv hv sts ops opn rg kf kk th ens mv mm sps ho pb pz rc mr md mt gp qc qq qe lc tq) ∧ (∀ post : SY → Prop, post (sc, oc, tl, (nI (8 * Z)), bt, ma, ol, tp, sb, sd, tk, da', ag', gl, fw, fv', hv', ta, lk, go, ca, cv, cm, cg, opn, ow, oq, ox, rg', sw, sa, sz, sg, ho, kf, kk, ra, ac, ea, eb, ch, th, mv, mm, ty, bi, mk, rc, mr, md, mt', gp, yb, le, qc, qe, qq, tq, lc, gt) → wpY_operate post (sc, oc, tl, (nI (8 * Z)), bt, ma, ol, tp, sb, sd, tk, da, ag, gl, fw, fv, hv, ta, lk, go, ca, cv, cm, cg, opn, ow, oq, ox, rg, sw, sa, sz, sg, ho, kf, kk, ra, ac, ea, eb, ch, th, mv, mm, ty, bi, mk, rc, mr, md, mt, gp, yb, le, qc, qe, qq, tq, lc, gt) (nI (5 * a + i)) p q) := by
  obtain ⟨g0, g1, g2, _⟩ := hO.2 (5 * a + i) (by omega)
  have ek : (nI a * 5 + nI i) * 3 = nI ((5 * a + i) * 3) := by
    have e1 : nI a * 5 + nI i = nI (5 * a + i) := (sd_ma a 5 i).trans (by rw [Nat.mul_comm])
    rw [e1]
    exact pk_mul _ 3
  have e1 : nI ((5 * a + i) * 3) + 1 = nI ((5 * a + i) * 3 + 1) := nI_add _ 1
  have e2 : nI ((5 * a + i) * 3) + 2 = nI ((5 * a + i) * 3 + 2) := nI_add _ 2
  have i0 : vp_in (nI ((5 * a + i) * 3)) 120 := vp_in_nI (by omega) (by decide)
  have i1 : vp_in (nI ((5 * a + i) * 3) + 1) 120 := by rw [e1]; exact vp_in_nI (by omega) (by decide)
  have i2 : vp_in (nI ((5 * a + i) * 3) + 2) 120 := by rw [e2]; exact vp_in_nI (by omega) (by decide)
  have v0 : ops (nI ((5 * a + i) * 3)).toNatClampNeg = ow (5 * a + i) := by rw [nI_clamp (by omega)]; exact g0
  have v1 : ops (nI ((5 * a + i) * 3) + 1).toNatClampNeg = oq (5 * a + i) := by rw [e1, nI_clamp (by omega)]; exact g1
  have v2 : ops (nI ((5 * a + i) * 3) + 2).toNatClampNeg = ox (5 * a + i) := by rw [e2, nI_clamp (by omega)]; exact g2
  have w0 : vp_in (nI (5 * a + i)) 40 := vp_in_nI (by omega) (by decide)
  have cn : ¬ nI N ≤ nI i := nI_ge hi (by omega)
  have u1 : oq (nI (5 * a + i)).toNatClampNeg = oq (5 * a + i) := by rw [nI_clamp (by omega)]
  have u2 : ox (nI (5 * a + i)).toNatClampNeg = ox (5 * a + i) := by rw [nI_clamp (by omega)]
  have u0 : ow (nI (5 * a + i)).toNatClampNeg = ow (5 * a + i) := by rw [nI_clamp (by omega)]
  by_cases z : hv f = 0
  · refine ⟨da, ag, sd_zh fv f 4, upd hv f 1, rg, mt, sd_Fh (sd_Fzh hF hf2 4 (by omega)) (Or.inr rfl), fun post n hp => ?_, fun post hp => ?_⟩
    · exact br_f cn (nm_r ek ⟨i1, nm_r (v1.trans hf) ⟨i2, nm_r v2 ⟨i0, nm_r (v0.trans hw) (br_f (by decide) (br_f (by decide) (br_f (by decide) (br_f (by decide) (br_f (by decide) (br_f (by decide) (br_f (by decide) (br_t rfl (sx_addh hf2 (fun _ => nm_r (nI_1 i) hp) (fun y => absurd z y))))))))))⟩⟩⟩)
    · exact ⟨w0, nm_r (u1.trans hf) ⟨w0, nm_r u2 ⟨w0, nm_r (u0.trans hw) (br_f (by decide) (br_f (by decide) (br_f (by decide) (br_f (by decide) (br_f (by decide) (br_f (by decide) (br_f (by decide) (br_f (by decide) (br_t rfl (sy_addh hf2 (fun _ => hp) (fun y => absurd z y)))))))))))⟩⟩⟩
  · have z1 : hv f = 1 := (hF.2.2 f hf2).resolve_left z
    refine ⟨da, ag, fv, hv, rg, mt, hF, fun post n hp => ?_, fun post hp => ?_⟩
    · exact br_f cn (nm_r ek ⟨i1, nm_r (v1.trans hf) ⟨i2, nm_r v2 ⟨i0, nm_r (v0.trans hw) (br_f (by decide) (br_f (by decide) (br_f (by decide) (br_f (by decide) (br_f (by decide) (br_f (by decide) (br_f (by decide) (br_t rfl (sx_addh hf2 (fun y => absurd y z) (fun _ => nm_r (nI_1 i) hp))))))))))⟩⟩⟩)
    · exact ⟨w0, nm_r (u1.trans hf) ⟨w0, nm_r u2 ⟨w0, nm_r (u0.trans hw) (br_f (by decide) (br_f (by decide) (br_f (by decide) (br_f (by decide) (br_f (by decide) (br_f (by decide) (br_f (by decide) (br_f (by decide) (br_t rfl (sy_addh hf2 (fun y => absurd y z) (fun _ => by rw [sd_ud z1]; exact hp)))))))))))⟩⟩⟩
theorem sd_o7 {a i N Z c f x : Nat} {p q : Int32} (hF : sd_F fw fv hv) (hO : sd_O ops opn ow oq ox) (hZ : Z ≤ 16) (hz : pz 49 = nI Z) (ha : a < 8) (hi : i < N) (hN : N ≤ 5) (hw : ow (5 * a + i) = nI 7) (hf : oq (5 * a + i) = nI f) (hf2 : f < 6) : ∃ (da' ag' : Int32) (fv' hv' rg' mt' : Nat → Int32), sd_F fw fv' hv' ∧ (∀ (post : SX → Prop) (n : Nat), wX_doAction_11 post (nI a) p q (nI N) n (nI (i + 1)) sc oc bt bb da' ag' lo tp sb sd tk fw fv' hv' sts ops opn rg' kf kk th ens mv mm sps ho pb pz rc mr md mt' gp qc qq qe lc tq → wX_doAction_11 post (nI a) p q (nI N) (n + 1) (nI i) sc oc bt bb da ag lo tp sb sd tk fw fv hv sts ops opn rg kf kk th ens mv mm sps ho pb pz rc mr md mt gp qc qq qe lc tq) ∧ (∀ post : SY → Prop, post (sc, oc, tl, (nI (8 * Z)), bt, ma, ol, tp, sb, sd, tk, da', ag', gl, fw, fv', hv', ta, lk, go, ca, cv, cm, cg, opn, ow, oq, ox, rg', sw, sa, sz, sg, ho, kf, kk, ra, ac, ea, eb, ch, th, mv, mm, ty, bi, mk, rc, mr, md, mt', gp, yb, le, qc, qe, qq, tq, lc, gt) → wpY_operate post (sc, oc, tl, (nI (8 * Z)), bt, ma, ol, tp, sb, sd, tk, da, ag, gl, fw, fv, hv, ta, lk, go, ca, cv, cm, cg, opn, ow, oq, ox, rg, sw, sa, sz, sg, ho, kf, kk, ra, ac, ea, eb, ch, th, mv, mm, ty, bi, mk, rc, mr, md, mt, gp, yb, le, qc, qe, qq, tq, lc, gt) (nI (5 * a + i)) p q) := by
  obtain ⟨g0, g1, g2, _⟩ := hO.2 (5 * a + i) (by omega)
  have ek : (nI a * 5 + nI i) * 3 = nI ((5 * a + i) * 3) := by
    have e1 : nI a * 5 + nI i = nI (5 * a + i) := (sd_ma a 5 i).trans (by rw [Nat.mul_comm])
    rw [e1]
    exact pk_mul _ 3
  have e1 : nI ((5 * a + i) * 3) + 1 = nI ((5 * a + i) * 3 + 1) := nI_add _ 1
  have e2 : nI ((5 * a + i) * 3) + 2 = nI ((5 * a + i) * 3 + 2) := nI_add _ 2
  have i0 : vp_in (nI ((5 * a + i) * 3)) 120 := vp_in_nI (by omega) (by decide)
  have i1 : vp_in (nI ((5 * a + i) * 3) + 1) 120 := by rw [e1]; exact vp_in_nI (by omega) (by decide)
  have i2 : vp_in (nI ((5 * a + i) * 3) + 2) 120 := by rw [e2]; exact vp_in_nI (by omega) (by decide)
  have v0 : ops (nI ((5 * a + i) * 3)).toNatClampNeg = ow (5 * a + i) := by rw [nI_clamp (by omega)]; exact g0
  have v1 : ops (nI ((5 * a + i) * 3) + 1).toNatClampNeg = oq (5 * a + i) := by rw [e1, nI_clamp (by omega)]; exact g1
  have v2 : ops (nI ((5 * a + i) * 3) + 2).toNatClampNeg = ox (5 * a + i) := by rw [e2, nI_clamp (by omega)]; exact g2
  have w0 : vp_in (nI (5 * a + i)) 40 := vp_in_nI (by omega) (by decide)
  have cn : ¬ nI N ≤ nI i := nI_ge hi (by omega)
  have u1 : oq (nI (5 * a + i)).toNatClampNeg = oq (5 * a + i) := by rw [nI_clamp (by omega)]
  have u2 : ox (nI (5 * a + i)).toNatClampNeg = ox (5 * a + i) := by rw [nI_clamp (by omega)]
  have u0 : ow (nI (5 * a + i)).toNatClampNeg = ow (5 * a + i) := by rw [nI_clamp (by omega)]
  refine ⟨da, ag, fv, upd hv f 0, rg, mt, sd_Fh hF (Or.inl rfl), fun post n hp => ?_, fun post hp => ?_⟩
  · exact br_f cn (nm_r ek ⟨i1, nm_r (v1.trans hf) ⟨i2, nm_r v2 ⟨i0, nm_r (v0.trans hw) (br_f (by decide) (br_f (by decide) (br_f (by decide) (br_f (by decide) (br_f (by decide) (br_f (by decide) (br_f (by decide) (br_f (by decide) (br_t rfl (sd_st f rfl hf2 (by decide) (by rw [sd_b0]; exact nm_r (nI_1 i) hp)))))))))))⟩⟩⟩)
  · exact ⟨w0, nm_r (u1.trans hf) ⟨w0, nm_r u2 ⟨w0, nm_r (u0.trans hw) (br_f (by decide) (br_f (by decide) (br_f (by decide) (br_f (by decide) (br_f (by decide) (br_f (by decide) (br_f (by decide) (br_f (by decide) (br_f (by decide) (br_t rfl (sy_remh hf2 hp)))))))))))⟩⟩⟩
theorem sd_o8 {a i N Z c f x : Nat} {p q : Int32} (hF : sd_F fw fv hv) (hO : sd_O ops opn ow oq ox) (hZ : Z ≤ 16) (hz : pz 49 = nI Z) (ha : a < 8) (hi : i < N) (hN : N ≤ 5) (hw : ow (5 * a + i) = nI 8) : ∃ (da' ag' : Int32) (fv' hv' rg' mt' : Nat → Int32), sd_F fw fv' hv' ∧ (∀ (post : SX → Prop) (n : Nat), wX_doAction_11 post (nI a) p q (nI N) n (nI (i + 1)) sc oc bt bb da' ag' lo tp sb sd tk fw fv' hv' sts ops opn rg' kf kk th ens mv mm sps ho pb pz rc mr md mt' gp qc qq qe lc tq → wX_doAction_11 post (nI a) p q (nI N) (n + 1) (nI i) sc oc bt bb da ag lo tp sb sd tk fw fv hv sts ops opn rg kf kk th ens mv mm sps ho pb pz rc mr md mt gp qc qq qe lc tq) ∧ (∀ post : SY → Prop, post (sc, oc, tl, (nI (8 * Z)), bt, ma, ol, tp, sb, sd, tk, da', ag', gl, fw, fv', hv', ta, lk, go, ca, cv, cm, cg, opn, ow, oq, ox, rg', sw, sa, sz, sg, ho, kf, kk, ra, ac, ea, eb, ch, th, mv, mm, ty, bi, mk, rc, mr, md, mt', gp, yb, le, qc, qe, qq, tq, lc, gt) → wpY_operate post (sc, oc, tl, (nI (8 * Z)), bt, ma, ol, tp, sb, sd, tk, da, ag, gl, fw, fv, hv, ta, lk, go, ca, cv, cm, cg, opn, ow, oq, ox, rg, sw, sa, sz, sg, ho, kf, kk, ra, ac, ea, eb, ch, th, mv, mm, ty, bi, mk, rc, mr, md, mt, gp, yb, le, qc, qe, qq, tq, lc, gt) (nI (5 * a + i)) p q) := by
  obtain ⟨g0, g1, g2, _⟩ := hO.2 (5 * a + i) (by omega)
  have ek : (nI a * 5 + nI i) * 3 = nI ((5 * a + i) * 3) := by
    have e1 : nI a * 5 + nI i = nI (5 * a + i) := (sd_ma a 5 i).trans (by rw [Nat.mul_comm])
    rw [e1]
    exact pk_mul _ 3
  have e1 : nI ((5 * a + i) * 3) + 1 = nI ((5 * a + i) * 3 + 1) := nI_add _ 1
  have e2 : nI ((5 * a + i) * 3) + 2 = nI ((5 * a + i) * 3 + 2) := nI_add _ 2
  have i0 : vp_in (nI ((5 * a + i) * 3)) 120 := vp_in_nI (by omega) (by decide)
  have i1 : vp_in (nI ((5 * a + i) * 3) + 1) 120 := by rw [e1]; exact vp_in_nI (by omega) (by decide)
  have i2 : vp_in (nI ((5 * a + i) * 3) + 2) 120 := by rw [e2]; exact vp_in_nI (by omega) (by decide)
  have v0 : ops (nI ((5 * a + i) * 3)).toNatClampNeg = ow (5 * a + i) := by rw [nI_clamp (by omega)]; exact g0
  have v1 : ops (nI ((5 * a + i) * 3) + 1).toNatClampNeg = oq (5 * a + i) := by rw [e1, nI_clamp (by omega)]; exact g1
  have v2 : ops (nI ((5 * a + i) * 3) + 2).toNatClampNeg = ox (5 * a + i) := by rw [e2, nI_clamp (by omega)]; exact g2
  have w0 : vp_in (nI (5 * a + i)) 40 := vp_in_nI (by omega) (by decide)
  have cn : ¬ nI N ≤ nI i := nI_ge hi (by omega)
  have u1 : oq (nI (5 * a + i)).toNatClampNeg = oq (5 * a + i) := by rw [nI_clamp (by omega)]
  have u2 : ox (nI (5 * a + i)).toNatClampNeg = ox (5 * a + i) := by rw [nI_clamp (by omega)]
  have u0 : ow (nI (5 * a + i)).toNatClampNeg = ow (5 * a + i) := by rw [nI_clamp (by omega)]
  refine ⟨1, ag, fv, hv, rg, mt, hF, fun post n hp => ?_, fun post hp => ?_⟩
  · exact br_f cn (nm_r ek ⟨i1, nm_r v1 ⟨i2, nm_r v2 ⟨i0, nm_r (v0.trans hw) (br_f (by decide) (br_f (by decide) (br_f (by decide) (br_f (by decide) (br_f (by decide) (br_f (by decide) (br_f (by decide) (br_f (by decide) (br_f (by decide) (br_t rfl (nm_r (nI_1 i) hp)))))))))))⟩⟩⟩)
  · exact ⟨w0, nm_r u1 ⟨w0, nm_r u2 ⟨w0, nm_r (u0.trans hw) (br_f (by decide) (br_f (by decide) (br_f (by decide) (br_f (by decide) (br_f (by decide) (br_f (by decide) (br_f (by decide) (br_f (by decide) (br_f (by decide) (br_f (by decide) (br_t rfl (hp))))))))))))⟩⟩⟩
theorem sd_o9 {a i N Z c f x : Nat} {p q : Int32} (hF : sd_F fw fv hv) (hO : sd_O ops opn ow oq ox) (hZ : Z ≤ 16) (hz : pz 49 = nI Z) (ha : a < 8) (hi : i < N) (hN : N ≤ 5) (hw : ow (5 * a + i) = nI 9) : ∃ (da' ag' : Int32) (fv' hv' rg' mt' : Nat → Int32), sd_F fw fv' hv' ∧ (∀ (post : SX → Prop) (n : Nat), wX_doAction_11 post (nI a) p q (nI N) n (nI (i + 1)) sc oc bt bb da' ag' lo tp sb sd tk fw fv' hv' sts ops opn rg' kf kk th ens mv mm sps ho pb pz rc mr md mt' gp qc qq qe lc tq → wX_doAction_11 post (nI a) p q (nI N) (n + 1) (nI i) sc oc bt bb da ag lo tp sb sd tk fw fv hv sts ops opn rg kf kk th ens mv mm sps ho pb pz rc mr md mt gp qc qq qe lc tq) ∧ (∀ post : SY → Prop, post (sc, oc, tl, (nI (8 * Z)), bt, ma, ol, tp, sb, sd, tk, da', ag', gl, fw, fv', hv', ta, lk, go, ca, cv, cm, cg, opn, ow, oq, ox, rg', sw, sa, sz, sg, ho, kf, kk, ra, ac, ea, eb, ch, th, mv, mm, ty, bi, mk, rc, mr, md, mt', gp, yb, le, qc, qe, qq, tq, lc, gt) → wpY_operate post (sc, oc, tl, (nI (8 * Z)), bt, ma, ol, tp, sb, sd, tk, da, ag, gl, fw, fv, hv, ta, lk, go, ca, cv, cm, cg, opn, ow, oq, ox, rg, sw, sa, sz, sg, ho, kf, kk, ra, ac, ea, eb, ch, th, mv, mm, ty, bi, mk, rc, mr, md, mt, gp, yb, le, qc, qe, qq, tq, lc, gt) (nI (5 * a + i)) p q) := by
  obtain ⟨g0, g1, g2, _⟩ := hO.2 (5 * a + i) (by omega)
  have ek : (nI a * 5 + nI i) * 3 = nI ((5 * a + i) * 3) := by
    have e1 : nI a * 5 + nI i = nI (5 * a + i) := (sd_ma a 5 i).trans (by rw [Nat.mul_comm])
    rw [e1]
    exact pk_mul _ 3
  have e1 : nI ((5 * a + i) * 3) + 1 = nI ((5 * a + i) * 3 + 1) := nI_add _ 1
  have e2 : nI ((5 * a + i) * 3) + 2 = nI ((5 * a + i) * 3 + 2) := nI_add _ 2
  have i0 : vp_in (nI ((5 * a + i) * 3)) 120 := vp_in_nI (by omega) (by decide)
  have i1 : vp_in (nI ((5 * a + i) * 3) + 1) 120 := by rw [e1]; exact vp_in_nI (by omega) (by decide)
  have i2 : vp_in (nI ((5 * a + i) * 3) + 2) 120 := by rw [e2]; exact vp_in_nI (by omega) (by decide)
  have v0 : ops (nI ((5 * a + i) * 3)).toNatClampNeg = ow (5 * a + i) := by rw [nI_clamp (by omega)]; exact g0
  have v1 : ops (nI ((5 * a + i) * 3) + 1).toNatClampNeg = oq (5 * a + i) := by rw [e1, nI_clamp (by omega)]; exact g1
  have v2 : ops (nI ((5 * a + i) * 3) + 2).toNatClampNeg = ox (5 * a + i) := by rw [e2, nI_clamp (by omega)]; exact g2
  have w0 : vp_in (nI (5 * a + i)) 40 := vp_in_nI (by omega) (by decide)
  have cn : ¬ nI N ≤ nI i := nI_ge hi (by omega)
  have u1 : oq (nI (5 * a + i)).toNatClampNeg = oq (5 * a + i) := by rw [nI_clamp (by omega)]
  have u2 : ox (nI (5 * a + i)).toNatClampNeg = ox (5 * a + i) := by rw [nI_clamp (by omega)]
  have u0 : ow (nI (5 * a + i)).toNatClampNeg = ow (5 * a + i) := by rw [nI_clamp (by omega)]
  refine ⟨da, 1, fv, hv, rg, mt, hF, fun post n hp => ?_, fun post hp => ?_⟩
  · exact br_f cn (nm_r ek ⟨i1, nm_r v1 ⟨i2, nm_r v2 ⟨i0, nm_r (v0.trans hw) (br_f (by decide) (br_f (by decide) (br_f (by decide) (br_f (by decide) (br_f (by decide) (br_f (by decide) (br_f (by decide) (br_f (by decide) (br_f (by decide) (br_f (by decide) (br_t rfl (nm_r (nI_1 i) hp))))))))))))⟩⟩⟩)
  · exact ⟨w0, nm_r u1 ⟨w0, nm_r u2 ⟨w0, nm_r (u0.trans hw) (br_f (by decide) (br_f (by decide) (br_f (by decide) (br_f (by decide) (br_f (by decide) (br_f (by decide) (br_f (by decide) (br_f (by decide) (br_f (by decide) (br_f (by decide) (br_f (by decide) (br_t rfl (hp)))))))))))))⟩⟩⟩
theorem sd_o10 {a i N Z c f x : Nat} {p q : Int32} (hF : sd_F fw fv hv) (hO : sd_O ops opn ow oq ox) (hZ : Z ≤ 16) (hz : pz 49 = nI Z) (ha : a < 8) (hi : i < N) (hN : N ≤ 5) (hw : ow (5 * a + i) = nI 10) (hf : oq (5 * a + i) = nI f) (hf2 : f < 28) (hx : ox (5 * a + i) = nI x) (hx2 : x < 6) : ∃ (da' ag' : Int32) (fv' hv' rg' mt' : Nat → Int32), sd_F fw fv' hv' ∧ (∀ (post : SX → Prop) (n : Nat), wX_doAction_11 post (nI a) p q (nI N) n (nI (i + 1)) sc oc bt bb da' ag' lo tp sb sd tk fw fv' hv' sts ops opn rg' kf kk th ens mv mm sps ho pb pz rc mr md mt' gp qc qq qe lc tq → wX_doAction_11 post (nI a) p q (nI N) (n + 1) (nI i) sc oc bt bb da ag lo tp sb sd tk fw fv hv sts ops opn rg kf kk th ens mv mm sps ho pb pz rc mr md mt gp qc qq qe lc tq) ∧ (∀ post : SY → Prop, post (sc, oc, tl, (nI (8 * Z)), bt, ma, ol, tp, sb, sd, tk, da', ag', gl, fw, fv', hv', ta, lk, go, ca, cv, cm, cg, opn, ow, oq, ox, rg', sw, sa, sz, sg, ho, kf, kk, ra, ac, ea, eb, ch, th, mv, mm, ty, bi, mk, rc, mr, md, mt', gp, yb, le, qc, qe, qq, tq, lc, gt) → wpY_operate post (sc, oc, tl, (nI (8 * Z)), bt, ma, ol, tp, sb, sd, tk, da, ag, gl, fw, fv, hv, ta, lk, go, ca, cv, cm, cg, opn, ow, oq, ox, rg, sw, sa, sz, sg, ho, kf, kk, ra, ac, ea, eb, ch, th, mv, mm, ty, bi, mk, rc, mr, md, mt, gp, yb, le, qc, qe, qq, tq, lc, gt) (nI (5 * a + i)) p q) := by
  obtain ⟨g0, g1, g2, _⟩ := hO.2 (5 * a + i) (by omega)
  have ek : (nI a * 5 + nI i) * 3 = nI ((5 * a + i) * 3) := by
    have e1 : nI a * 5 + nI i = nI (5 * a + i) := (sd_ma a 5 i).trans (by rw [Nat.mul_comm])
    rw [e1]
    exact pk_mul _ 3
  have e1 : nI ((5 * a + i) * 3) + 1 = nI ((5 * a + i) * 3 + 1) := nI_add _ 1
  have e2 : nI ((5 * a + i) * 3) + 2 = nI ((5 * a + i) * 3 + 2) := nI_add _ 2
  have i0 : vp_in (nI ((5 * a + i) * 3)) 120 := vp_in_nI (by omega) (by decide)
  have i1 : vp_in (nI ((5 * a + i) * 3) + 1) 120 := by rw [e1]; exact vp_in_nI (by omega) (by decide)
  have i2 : vp_in (nI ((5 * a + i) * 3) + 2) 120 := by rw [e2]; exact vp_in_nI (by omega) (by decide)
  have v0 : ops (nI ((5 * a + i) * 3)).toNatClampNeg = ow (5 * a + i) := by rw [nI_clamp (by omega)]; exact g0
  have v1 : ops (nI ((5 * a + i) * 3) + 1).toNatClampNeg = oq (5 * a + i) := by rw [e1, nI_clamp (by omega)]; exact g1
  have v2 : ops (nI ((5 * a + i) * 3) + 2).toNatClampNeg = ox (5 * a + i) := by rw [e2, nI_clamp (by omega)]; exact g2
  have w0 : vp_in (nI (5 * a + i)) 40 := vp_in_nI (by omega) (by decide)
  have cn : ¬ nI N ≤ nI i := nI_ge hi (by omega)
  have u1 : oq (nI (5 * a + i)).toNatClampNeg = oq (5 * a + i) := by rw [nI_clamp (by omega)]
  have u2 : ox (nI (5 * a + i)).toNatClampNeg = ox (5 * a + i) := by rw [nI_clamp (by omega)]
  have u0 : ow (nI (5 * a + i)).toNatClampNeg = ow (5 * a + i) := by rw [nI_clamp (by omega)]
  refine ⟨da, ag, upd fv f (sd_pv (fw f) (65535 - nI (sd_fo (sd_fo (sd_Gn (sd_qq fw fv f x 4) (sd_tb fw x 0 4)))))), hv, rg, mt, sd_Fp hF hf2 _, fun post n hp => ?_, fun post hp => ?_⟩
  ·
    refine br_f cn (nm_r ek ⟨i1, nm_r (v1.trans hf) ⟨i2, nm_r (v2.trans hx) ⟨i0, nm_r (v0.trans hw) (br_f (by decide) (br_f (by decide) (br_f (by decide) (br_f (by decide) (br_f (by decide) (br_f (by decide) (br_f (by decide) (br_f (by decide) (br_f (by decide) (br_f (by decide) (br_f (by decide) (br_t rfl (?_)))))))))))))⟩⟩⟩)
    unfold wX_doAction_192
    rw [v0, hw]
    refine ⟨i0, br_f (by decide) (br_f (by decide) (br_f (by decide) (br_f (by decide) (br_f (by decide) (br_f (by decide) (br_f (by decide) (br_f (by decide) (br_f (by decide) (br_f (by decide) (br_f (by decide) (br_f (by decide) (br_t rfl (?_)))))))))))))⟩
    exact sx_sum hF hx2 hf2 (sx_put hf2 (nm_r (nI_1 i) hp))
  · refine ⟨w0, nm_r (u1.trans hf) ⟨w0, nm_r (u2.trans hx) ⟨w0, nm_r (u0.trans hw) (br_f (by decide) (br_f (by decide) (br_f (by decide) (br_f (by decide) (br_f (by decide) (br_f (by decide) (br_f (by decide) (br_f (by decide) (br_f (by decide) (br_f (by decide) (br_f (by decide) (br_f (by decide) (br_t rfl (?_))))))))))))))⟩⟩⟩
    unfold wY_operate_320
    rw [u0, hw]
    exact ⟨w0, br_t rfl (sy_sum hF hx2 hf2 (sy_put hf2 hp))⟩
theorem sd_o11 {a i N Z c f x : Nat} {p q : Int32} (hF : sd_F fw fv hv) (hO : sd_O ops opn ow oq ox) (hZ : Z ≤ 16) (hz : pz 49 = nI Z) (ha : a < 8) (hi : i < N) (hN : N ≤ 5) (hw : ow (5 * a + i) = nI 11) (hf : oq (5 * a + i) = nI f) (hf2 : f < 28) (hx : ox (5 * a + i) = nI x) (hx2 : x < 8) : ∃ (da' ag' : Int32) (fv' hv' rg' mt' : Nat → Int32), sd_F fw fv' hv' ∧ (∀ (post : SX → Prop) (n : Nat), wX_doAction_11 post (nI a) p q (nI N) n (nI (i + 1)) sc oc bt bb da' ag' lo tp sb sd tk fw fv' hv' sts ops opn rg' kf kk th ens mv mm sps ho pb pz rc mr md mt' gp qc qq qe lc tq → wX_doAction_11 post (nI a) p q (nI N) (n + 1) (nI i) sc oc bt bb da ag lo tp sb sd tk fw fv hv sts ops opn rg kf kk th ens mv mm sps ho pb pz rc mr md mt gp qc qq qe lc tq) ∧ (∀ post : SY → Prop, post (sc, oc, tl, (nI (8 * Z)), bt, ma, ol, tp, sb, sd, tk, da', ag', gl, fw, fv', hv', ta, lk, go, ca, cv, cm, cg, opn, ow, oq, ox, rg', sw, sa, sz, sg, ho, kf, kk, ra, ac, ea, eb, ch, th, mv, mm, ty, bi, mk, rc, mr, md, mt', gp, yb, le, qc, qe, qq, tq, lc, gt) → wpY_operate post (sc, oc, tl, (nI (8 * Z)), bt, ma, ol, tp, sb, sd, tk, da, ag, gl, fw, fv, hv, ta, lk, go, ca, cv, cm, cg, opn, ow, oq, ox, rg, sw, sa, sz, sg, ho, kf, kk, ra, ac, ea, eb, ch, th, mv, mm, ty, bi, mk, rc, mr, md, mt, gp, yb, le, qc, qe, qq, tq, lc, gt) (nI (5 * a + i)) p q) := by
  obtain ⟨g0, g1, g2, _⟩ := hO.2 (5 * a + i) (by omega)
  have ek : (nI a * 5 + nI i) * 3 = nI ((5 * a + i) * 3) := by
    have e1 : nI a * 5 + nI i = nI (5 * a + i) := (sd_ma a 5 i).trans (by rw [Nat.mul_comm])
    rw [e1]
    exact pk_mul _ 3
  have e1 : nI ((5 * a + i) * 3) + 1 = nI ((5 * a + i) * 3 + 1) := nI_add _ 1
  have e2 : nI ((5 * a + i) * 3) + 2 = nI ((5 * a + i) * 3 + 2) := nI_add _ 2
  have i0 : vp_in (nI ((5 * a + i) * 3)) 120 := vp_in_nI (by omega) (by decide)
  have i1 : vp_in (nI ((5 * a + i) * 3) + 1) 120 := by rw [e1]; exact vp_in_nI (by omega) (by decide)
  have i2 : vp_in (nI ((5 * a + i) * 3) + 2) 120 := by rw [e2]; exact vp_in_nI (by omega) (by decide)
  have v0 : ops (nI ((5 * a + i) * 3)).toNatClampNeg = ow (5 * a + i) := by rw [nI_clamp (by omega)]; exact g0
  have v1 : ops (nI ((5 * a + i) * 3) + 1).toNatClampNeg = oq (5 * a + i) := by rw [e1, nI_clamp (by omega)]; exact g1
  have v2 : ops (nI ((5 * a + i) * 3) + 2).toNatClampNeg = ox (5 * a + i) := by rw [e2, nI_clamp (by omega)]; exact g2
  have w0 : vp_in (nI (5 * a + i)) 40 := vp_in_nI (by omega) (by decide)
  have cn : ¬ nI N ≤ nI i := nI_ge hi (by omega)
  have u1 : oq (nI (5 * a + i)).toNatClampNeg = oq (5 * a + i) := by rw [nI_clamp (by omega)]
  have u2 : ox (nI (5 * a + i)).toNatClampNeg = ox (5 * a + i) := by rw [nI_clamp (by omega)]
  have u0 : ow (nI (5 * a + i)).toNatClampNeg = ow (5 * a + i) := by rw [nI_clamp (by omega)]
  refine ⟨da, ag, upd fv f (sd_pv (fw f) (rg x)), hv, rg, mt, sd_Fp hF hf2 _, fun post n hp => ?_, fun post hp => ?_⟩
  ·
    refine br_f cn (nm_r ek ⟨i1, nm_r (v1.trans hf) ⟨i2, nm_r (v2.trans hx) ⟨i0, nm_r (v0.trans hw) (br_f (by decide) (br_f (by decide) (br_f (by decide) (br_f (by decide) (br_f (by decide) (br_f (by decide) (br_f (by decide) (br_f (by decide) (br_f (by decide) (br_f (by decide) (br_f (by decide) (br_f (by decide) (br_t rfl (?_))))))))))))))⟩⟩⟩)
    unfold wX_doAction_192
    rw [v0, hw]
    refine ⟨i0, br_f (by decide) (br_f (by decide) (br_f (by decide) (br_f (by decide) (br_f (by decide) (br_f (by decide) (br_f (by decide) (br_f (by decide) (br_f (by decide) (br_f (by decide) (br_f (by decide) (br_f (by decide) (br_f (by decide) (br_t rfl (?_))))))))))))))⟩
    rw [nI_clamp (n := x) (by omega)]
    exact ⟨vp_in_nI (by omega) (by decide), nm_e (sx_put hf2 (nm_r (nI_1 i) hp))⟩
  · refine ⟨w0, nm_r (u1.trans hf) ⟨w0, nm_r (u2.trans hx) ⟨w0, nm_r (u0.trans hw) (br_f (by decide) (br_f (by decide) (br_f (by decide) (br_f (by decide) (br_f (by decide) (br_f (by decide) (br_f (by decide) (br_f (by decide) (br_f (by decide) (br_f (by decide) (br_f (by decide) (br_f (by decide) (br_f (by decide) (br_t rfl (?_)))))))))))))))⟩⟩⟩
    rw [nI_clamp (n := x) (by omega)]
    exact ⟨vp_in_nI (by omega) (by decide), sy_put hf2 hp⟩
theorem sd_o12 {a i N Z c f x : Nat} {p q : Int32} (hF : sd_F fw fv hv) (hO : sd_O ops opn ow oq ox) (hZ : Z ≤ 16) (hz : pz 49 = nI Z) (ha : a < 8) (hi : i < N) (hN : N ≤ 5) (hw : ow (5 * a + i) = nI 12) (hf : oq (5 * a + i) = nI f) (hf2 : f < 28) (hx : ox (5 * a + i) = nI x) (hx2 : x < 8) : ∃ (da' ag' : Int32) (fv' hv' rg' mt' : Nat → Int32), sd_F fw fv' hv' ∧ (∀ (post : SX → Prop) (n : Nat), wX_doAction_11 post (nI a) p q (nI N) n (nI (i + 1)) sc oc bt bb da' ag' lo tp sb sd tk fw fv' hv' sts ops opn rg' kf kk th ens mv mm sps ho pb pz rc mr md mt' gp qc qq qe lc tq → wX_doAction_11 post (nI a) p q (nI N) (n + 1) (nI i) sc oc bt bb da ag lo tp sb sd tk fw fv hv sts ops opn rg kf kk th ens mv mm sps ho pb pz rc mr md mt gp qc qq qe lc tq) ∧ (∀ post : SY → Prop, post (sc, oc, tl, (nI (8 * Z)), bt, ma, ol, tp, sb, sd, tk, da', ag', gl, fw, fv', hv', ta, lk, go, ca, cv, cm, cg, opn, ow, oq, ox, rg', sw, sa, sz, sg, ho, kf, kk, ra, ac, ea, eb, ch, th, mv, mm, ty, bi, mk, rc, mr, md, mt', gp, yb, le, qc, qe, qq, tq, lc, gt) → wpY_operate post (sc, oc, tl, (nI (8 * Z)), bt, ma, ol, tp, sb, sd, tk, da, ag, gl, fw, fv, hv, ta, lk, go, ca, cv, cm, cg, opn, ow, oq, ox, rg, sw, sa, sz, sg, ho, kf, kk, ra, ac, ea, eb, ch, th, mv, mm, ty, bi, mk, rc, mr, md, mt, gp, yb, le, qc, qe, qq, tq, lc, gt) (nI (5 * a + i)) p q) := by
  obtain ⟨g0, g1, g2, _⟩ := hO.2 (5 * a + i) (by omega)
  have ek : (nI a * 5 + nI i) * 3 = nI ((5 * a + i) * 3) := by
    have e1 : nI a * 5 + nI i = nI (5 * a + i) := (sd_ma a 5 i).trans (by rw [Nat.mul_comm])
    rw [e1]
    exact pk_mul _ 3
  have e1 : nI ((5 * a + i) * 3) + 1 = nI ((5 * a + i) * 3 + 1) := nI_add _ 1
  have e2 : nI ((5 * a + i) * 3) + 2 = nI ((5 * a + i) * 3 + 2) := nI_add _ 2
  have i0 : vp_in (nI ((5 * a + i) * 3)) 120 := vp_in_nI (by omega) (by decide)
  have i1 : vp_in (nI ((5 * a + i) * 3) + 1) 120 := by rw [e1]; exact vp_in_nI (by omega) (by decide)
  have i2 : vp_in (nI ((5 * a + i) * 3) + 2) 120 := by rw [e2]; exact vp_in_nI (by omega) (by decide)
  have v0 : ops (nI ((5 * a + i) * 3)).toNatClampNeg = ow (5 * a + i) := by rw [nI_clamp (by omega)]; exact g0
  have v1 : ops (nI ((5 * a + i) * 3) + 1).toNatClampNeg = oq (5 * a + i) := by rw [e1, nI_clamp (by omega)]; exact g1
  have v2 : ops (nI ((5 * a + i) * 3) + 2).toNatClampNeg = ox (5 * a + i) := by rw [e2, nI_clamp (by omega)]; exact g2
  have w0 : vp_in (nI (5 * a + i)) 40 := vp_in_nI (by omega) (by decide)
  have cn : ¬ nI N ≤ nI i := nI_ge hi (by omega)
  have u1 : oq (nI (5 * a + i)).toNatClampNeg = oq (5 * a + i) := by rw [nI_clamp (by omega)]
  have u2 : ox (nI (5 * a + i)).toNatClampNeg = ox (5 * a + i) := by rw [nI_clamp (by omega)]
  have u0 : ow (nI (5 * a + i)).toNatClampNeg = ow (5 * a + i) := by rw [nI_clamp (by omega)]
  refine ⟨da, ag, fv, hv, upd rg x (fv f), mt, hF, fun post n hp => ?_, fun post hp => ?_⟩
  · refine br_f cn (nm_r ek ⟨i1, nm_r (v1.trans hf) ⟨i2, nm_r (v2.trans hx) ⟨i0, nm_r (v0.trans hw) (br_f (by decide) (br_f (by decide) (br_f (by decide) (br_f (by decide) (br_f (by decide) (br_f (by decide) (br_f (by decide) (br_f (by decide) (br_f (by decide) (br_f (by decide) (br_f (by decide) (br_f (by decide) (br_f (by decide) (br_t rfl (?_)))))))))))))))⟩⟩⟩)
    rw [nI_clamp (n := f) (by omega)]
    exact ⟨vp_in_nI (by omega) (by decide), sd_st x rfl hx2 (by decide) (nm_r (nI_1 i) hp)⟩
  · refine ⟨w0, nm_r (u1.trans hf) ⟨w0, nm_r (u2.trans hx) ⟨w0, nm_r (u0.trans hw) (br_f (by decide) (br_f (by decide) (br_f (by decide) (br_f (by decide) (br_f (by decide) (br_f (by decide) (br_f (by decide) (br_f (by decide) (br_f (by decide) (br_f (by decide) (br_f (by decide) (br_f (by decide) (br_f (by decide) (br_f (by decide) (br_t rfl (?_))))))))))))))))⟩⟩⟩
    rw [nI_clamp (n := f) (by omega)]
    exact ⟨vp_in_nI (by omega) (by decide), sd_st x rfl hx2 (by decide) hp⟩
theorem sd_o13 {a i N Z c f x : Nat} {p q : Int32} (hF : sd_F fw fv hv) (hO : sd_O ops opn ow oq ox) (hZ : Z ≤ 16) (hz : pz 49 = nI Z) (ha : a < 8) (hi : i < N) (hN : N ≤ 5) (hw : ow (5 * a + i) = nI 13) (hf : oq (5 * a + i) = nI f) (hf2 : f < 28) (hx : ox (5 * a + i) = nI x) (hx2 : x < 8) : ∃ (da' ag' : Int32) (fv' hv' rg' mt' : Nat → Int32), sd_F fw fv' hv' ∧ (∀ (post : SX → Prop) (n : Nat), wX_doAction_11 post (nI a) p q (nI N) n (nI (i + 1)) sc oc bt bb da' ag' lo tp sb sd tk fw fv' hv' sts ops opn rg' kf kk th ens mv mm sps ho pb pz rc mr md mt' gp qc qq qe lc tq → wX_doAction_11 post (nI a) p q (nI N) (n + 1) (nI i) sc oc bt bb da ag lo tp sb sd tk fw fv hv sts ops opn rg kf kk th ens mv mm sps ho pb pz rc mr md mt gp qc qq qe lc tq) ∧ (∀ post : SY → Prop, post (sc, oc, tl, (nI (8 * Z)), bt, ma, ol, tp, sb, sd, tk, da', ag', gl, fw, fv', hv', ta, lk, go, ca, cv, cm, cg, opn, ow, oq, ox, rg', sw, sa, sz, sg, ho, kf, kk, ra, ac, ea, eb, ch, th, mv, mm, ty, bi, mk, rc, mr, md, mt', gp, yb, le, qc, qe, qq, tq, lc, gt) → wpY_operate post (sc, oc, tl, (nI (8 * Z)), bt, ma, ol, tp, sb, sd, tk, da, ag, gl, fw, fv, hv, ta, lk, go, ca, cv, cm, cg, opn, ow, oq, ox, rg, sw, sa, sz, sg, ho, kf, kk, ra, ac, ea, eb, ch, th, mv, mm, ty, bi, mk, rc, mr, md, mt, gp, yb, le, qc, qe, qq, tq, lc, gt) (nI (5 * a + i)) p q) := by
  obtain ⟨g0, g1, g2, _⟩ := hO.2 (5 * a + i) (by omega)
  have ek : (nI a * 5 + nI i) * 3 = nI ((5 * a + i) * 3) := by
    have e1 : nI a * 5 + nI i = nI (5 * a + i) := (sd_ma a 5 i).trans (by rw [Nat.mul_comm])
    rw [e1]
    exact pk_mul _ 3
  have e1 : nI ((5 * a + i) * 3) + 1 = nI ((5 * a + i) * 3 + 1) := nI_add _ 1
  have e2 : nI ((5 * a + i) * 3) + 2 = nI ((5 * a + i) * 3 + 2) := nI_add _ 2
  have i0 : vp_in (nI ((5 * a + i) * 3)) 120 := vp_in_nI (by omega) (by decide)
  have i1 : vp_in (nI ((5 * a + i) * 3) + 1) 120 := by rw [e1]; exact vp_in_nI (by omega) (by decide)
  have i2 : vp_in (nI ((5 * a + i) * 3) + 2) 120 := by rw [e2]; exact vp_in_nI (by omega) (by decide)
  have v0 : ops (nI ((5 * a + i) * 3)).toNatClampNeg = ow (5 * a + i) := by rw [nI_clamp (by omega)]; exact g0
  have v1 : ops (nI ((5 * a + i) * 3) + 1).toNatClampNeg = oq (5 * a + i) := by rw [e1, nI_clamp (by omega)]; exact g1
  have v2 : ops (nI ((5 * a + i) * 3) + 2).toNatClampNeg = ox (5 * a + i) := by rw [e2, nI_clamp (by omega)]; exact g2
  have w0 : vp_in (nI (5 * a + i)) 40 := vp_in_nI (by omega) (by decide)
  have cn : ¬ nI N ≤ nI i := nI_ge hi (by omega)
  have u1 : oq (nI (5 * a + i)).toNatClampNeg = oq (5 * a + i) := by rw [nI_clamp (by omega)]
  have u2 : ox (nI (5 * a + i)).toNatClampNeg = ox (5 * a + i) := by rw [nI_clamp (by omega)]
  have u0 : ow (nI (5 * a + i)).toNatClampNeg = ow (5 * a + i) := by rw [nI_clamp (by omega)]
  refine ⟨da, ag, upd fv f (sd_pv (fw f) (upd rg x ((rg x + fv f) &&& 65535) x)), hv, upd rg x ((rg x + fv f) &&& 65535), mt, sd_Fp hF hf2 _, fun post n hp => ?_, fun post hp => ?_⟩
  ·
    refine br_f cn (nm_r ek ⟨i1, nm_r (v1.trans hf) ⟨i2, nm_r (v2.trans hx) ⟨i0, nm_r (v0.trans hw) (br_f (by decide) (br_t (by decide) (?_)))⟩⟩⟩)
    unfold wX_doAction_192
    rw [v0, hw]
    refine ⟨i0, br_f (by decide) (br_f (by decide) (br_f (by decide) (br_f (by decide) (br_f (by decide) (br_f (by decide) (br_f (by decide) (br_f (by decide) (br_f (by decide) (br_f (by decide) (br_f (by decide) (br_f (by decide) (br_f (by decide) (br_f (by decide) (br_f (by decide) (br_t rfl (?_))))))))))))))))⟩
    rw [nI_clamp (n := x) (by omega), nI_clamp (n := f) (by omega)]
    exact ⟨vp_in_nI (by omega) (by decide), vp_in_nI (by omega) (by decide), vp_in_nI (by omega) (by decide), nm_e ⟨vp_in_nI (by omega) (by decide), nm_e (sx_put hf2 (nm_r (nI_1 i) hp))⟩⟩
  · refine ⟨w0, nm_r (u1.trans hf) ⟨w0, nm_r (u2.trans hx) ⟨w0, nm_r (u0.trans hw) (br_f (by decide) (br_f (by decide) (br_f (by decide) (br_f (by decide) (br_f (by decide) (br_f (by decide) (br_f (by decide) (br_f (by decide) (br_f (by decide) (br_f (by decide) (br_f (by decide) (br_f (by decide) (br_f (by decide) (br_f (by decide) (br_f (by decide) (br_t rfl (?_)))))))))))))))))⟩⟩⟩
    rw [nI_clamp (n := x) (by omega), nI_clamp (n := f) (by omega)]
    exact ⟨vp_in_nI (by omega) (by decide), vp_in_nI (by omega) (by decide), vp_in_nI (by omega) (by decide), nm_e ⟨vp_in_nI (by omega) (by decide), sy_put hf2 hp⟩⟩
theorem sd_o14 {a i N Z c f x : Nat} {p q : Int32} (hF : sd_F fw fv hv) (hO : sd_O ops opn ow oq ox) (hZ : Z ≤ 16) (hz : pz 49 = nI Z) (ha : a < 8) (hi : i < N) (hN : N ≤ 5) (hw : ow (5 * a + i) = nI 14) (hf : oq (5 * a + i) = nI f) (hf2 : f < 28) (hx : ox (5 * a + i) = nI x) (hx2 : x < 4) : ∃ (da' ag' : Int32) (fv' hv' rg' mt' : Nat → Int32), sd_F fw fv' hv' ∧ (∀ (post : SX → Prop) (n : Nat), wX_doAction_11 post (nI a) p q (nI N) n (nI (i + 1)) sc oc bt bb da' ag' lo tp sb sd tk fw fv' hv' sts ops opn rg' kf kk th ens mv mm sps ho pb pz rc mr md mt' gp qc qq qe lc tq → wX_doAction_11 post (nI a) p q (nI N) (n + 1) (nI i) sc oc bt bb da ag lo tp sb sd tk fw fv hv sts ops opn rg kf kk th ens mv mm sps ho pb pz rc mr md mt gp qc qq qe lc tq) ∧ (∀ post : SY → Prop, post (sc, oc, tl, (nI (8 * Z)), bt, ma, ol, tp, sb, sd, tk, da', ag', gl, fw, fv', hv', ta, lk, go, ca, cv, cm, cg, opn, ow, oq, ox, rg', sw, sa, sz, sg, ho, kf, kk, ra, ac, ea, eb, ch, th, mv, mm, ty, bi, mk, rc, mr, md, mt', gp, yb, le, qc, qe, qq, tq, lc, gt) → wpY_operate post (sc, oc, tl, (nI (8 * Z)), bt, ma, ol, tp, sb, sd, tk, da, ag, gl, fw, fv, hv, ta, lk, go, ca, cv, cm, cg, opn, ow, oq, ox, rg, sw, sa, sz, sg, ho, kf, kk, ra, ac, ea, eb, ch, th, mv, mm, ty, bi, mk, rc, mr, md, mt, gp, yb, le, qc, qe, qq, tq, lc, gt) (nI (5 * a + i)) p q) := by
  obtain ⟨g0, g1, g2, _⟩ := hO.2 (5 * a + i) (by omega)
  have ek : (nI a * 5 + nI i) * 3 = nI ((5 * a + i) * 3) := by
    have e1 : nI a * 5 + nI i = nI (5 * a + i) := (sd_ma a 5 i).trans (by rw [Nat.mul_comm])
    rw [e1]
    exact pk_mul _ 3
  have e1 : nI ((5 * a + i) * 3) + 1 = nI ((5 * a + i) * 3 + 1) := nI_add _ 1
  have e2 : nI ((5 * a + i) * 3) + 2 = nI ((5 * a + i) * 3 + 2) := nI_add _ 2
  have i0 : vp_in (nI ((5 * a + i) * 3)) 120 := vp_in_nI (by omega) (by decide)
  have i1 : vp_in (nI ((5 * a + i) * 3) + 1) 120 := by rw [e1]; exact vp_in_nI (by omega) (by decide)
  have i2 : vp_in (nI ((5 * a + i) * 3) + 2) 120 := by rw [e2]; exact vp_in_nI (by omega) (by decide)
  have v0 : ops (nI ((5 * a + i) * 3)).toNatClampNeg = ow (5 * a + i) := by rw [nI_clamp (by omega)]; exact g0
  have v1 : ops (nI ((5 * a + i) * 3) + 1).toNatClampNeg = oq (5 * a + i) := by rw [e1, nI_clamp (by omega)]; exact g1
  have v2 : ops (nI ((5 * a + i) * 3) + 2).toNatClampNeg = ox (5 * a + i) := by rw [e2, nI_clamp (by omega)]; exact g2
  have w0 : vp_in (nI (5 * a + i)) 40 := vp_in_nI (by omega) (by decide)
  have cn : ¬ nI N ≤ nI i := nI_ge hi (by omega)
  have u1 : oq (nI (5 * a + i)).toNatClampNeg = oq (5 * a + i) := by rw [nI_clamp (by omega)]
  have u2 : ox (nI (5 * a + i)).toNatClampNeg = ox (5 * a + i) := by rw [nI_clamp (by omega)]
  have u0 : ow (nI (5 * a + i)).toNatClampNeg = ow (5 * a + i) := by rw [nI_clamp (by omega)]
  by_cases z : nI Z ≤ mt x
  · refine ⟨da, ag, upd fv f (sd_pv (fw f) 0), hv, rg, upd mt x (mt x - nI Z), sd_Fp hF hf2 _, fun post n hp => ?_, fun post hp => ?_⟩
    · refine br_f cn (nm_r ek ⟨i1, nm_r (v1.trans hf) ⟨i2, nm_r (v2.trans hx) ⟨i0, nm_r (v0.trans hw) (br_f (by decide) (br_t (by decide) (?_)))⟩⟩⟩)
      unfold wX_doAction_192
      rw [v0, hw]
      refine ⟨i0, br_f (by decide) (br_t (by decide) (sx_meas hx2 hz (fun _ => sx_put hf2 (nm_r (nI_1 i) hp)) (fun y => absurd z y)))⟩
    · refine ⟨w0, nm_r (u1.trans hf) ⟨w0, nm_r (u2.trans hx) ⟨w0, nm_r (u0.trans hw) (br_f (by decide) (br_t (by decide) (?_)))⟩⟩⟩
      unfold wY_operate_320
      rw [u0, hw]
      exact ⟨w0, br_f (by decide) (sy_meas hx2 hZ (fun _ => sy_put hf2 hp) (fun y => absurd z y))⟩
  · refine ⟨da, ag, upd fv f (sd_pv (fw f) 1), hv, rg, mt, sd_Fp hF hf2 _, fun post n hp => ?_, fun post hp => ?_⟩
    · refine br_f cn (nm_r ek ⟨i1, nm_r (v1.trans hf) ⟨i2, nm_r (v2.trans hx) ⟨i0, nm_r (v0.trans hw) (br_f (by decide) (br_t (by decide) (?_)))⟩⟩⟩)
      unfold wX_doAction_192
      rw [v0, hw]
      refine ⟨i0, br_f (by decide) (br_t (by decide) (sx_meas hx2 hz (fun y => absurd y z) (fun _ => sx_put hf2 (nm_r (nI_1 i) hp))))⟩
    · refine ⟨w0, nm_r (u1.trans hf) ⟨w0, nm_r (u2.trans hx) ⟨w0, nm_r (u0.trans hw) (br_f (by decide) (br_t (by decide) (?_)))⟩⟩⟩
      unfold wY_operate_320
      rw [u0, hw]
      exact ⟨w0, br_f (by decide) (sy_meas hx2 hZ (fun y => absurd y z) (fun _ => sy_put hf2 hp))⟩
theorem sd_o {a i N Z : Nat} {p q : Int32} (hF : sd_F fw fv hv) (hO : sd_O ops opn ow oq ox) (hZ : Z ≤ 16) (hz : pz 49 = nI Z) (ha : a < 8) (hi : i < N) (hN : N ≤ 5) : ∃ (da' ag' : Int32) (fv' hv' rg' mt' : Nat → Int32), sd_F fw fv' hv' ∧ (∀ (post : SX → Prop) (n : Nat), wX_doAction_11 post (nI a) p q (nI N) n (nI (i + 1)) sc oc bt bb da' ag' lo tp sb sd tk fw fv' hv' sts ops opn rg' kf kk th ens mv mm sps ho pb pz rc mr md mt' gp qc qq qe lc tq → wX_doAction_11 post (nI a) p q (nI N) (n + 1) (nI i) sc oc bt bb da ag lo tp sb sd tk fw fv hv sts ops opn rg kf kk th ens mv mm sps ho pb pz rc mr md mt gp qc qq qe lc tq) ∧ (∀ post : SY → Prop, post (sc, oc, tl, (nI (8 * Z)), bt, ma, ol, tp, sb, sd, tk, da', ag', gl, fw, fv', hv', ta, lk, go, ca, cv, cm, cg, opn, ow, oq, ox, rg', sw, sa, sz, sg, ho, kf, kk, ra, ac, ea, eb, ch, th, mv, mm, ty, bi, mk, rc, mr, md, mt', gp, yb, le, qc, qe, qq, tq, lc, gt) → wpY_operate post (sc, oc, tl, (nI (8 * Z)), bt, ma, ol, tp, sb, sd, tk, da, ag, gl, fw, fv, hv, ta, lk, go, ca, cv, cm, cg, opn, ow, oq, ox, rg, sw, sa, sz, sg, ho, kf, kk, ra, ac, ea, eb, ch, th, mv, mm, ty, bi, mk, rc, mr, md, mt, gp, yb, le, qc, qe, qq, tq, lc, gt) (nI (5 * a + i)) p q) := by
  obtain ⟨n, h1, hw, h2, h3, h4, h5, h6, h7⟩ := (hO.2 (5 * a + i) (by omega)).2.2.2
  have : n = 0 ∨ n = 1 ∨ n = 2 ∨ n = 3 ∨ n = 4 ∨ n = 5 ∨ n = 6 ∨ n = 7 ∨ n = 8 ∨ n = 9 ∨ n = 10 ∨ n = 11 ∨ n = 12 ∨ n = 13 ∨ n = 14 := by omega
  rcases this with rfl | rfl | rfl | rfl | rfl | rfl | rfl | rfl | rfl | rfl | rfl | rfl | rfl | rfl | rfl
  · obtain ⟨f, hf2, hf⟩ := h2 (by omega)
    exact sd_o0 (c := 0) (x := 0) hF hO hZ hz ha hi hN hw hf hf2
  · obtain ⟨f, hf2, hf⟩ := h2 (by omega)
    exact sd_o1 (c := 0) (x := 0) hF hO hZ hz ha hi hN hw hf hf2
  · obtain ⟨f, hf2, hf⟩ := h2 (by omega)
    obtain ⟨x, hx2, hx⟩ := h4 (by omega)
    exact sd_o2 (c := 0) hF hO hZ hz ha hi hN hw hf hf2 hx hx2
  · obtain ⟨f, hf2, hf⟩ := h2 (by omega)
    obtain ⟨x, hx2, hx⟩ := h4 (by omega)
    exact sd_o3 (c := 0) hF hO hZ hz ha hi hN hw hf hf2 hx hx2
  · obtain ⟨f, hf2, hf⟩ := h2 (by omega)
    obtain ⟨x, hx2, hx⟩ := h4 (by omega)
    exact sd_o4 (c := 0) hF hO hZ hz ha hi hN hw hf hf2 hx hx2
  · obtain ⟨f, hf2, hf⟩ := h2 (by omega)
    obtain ⟨x, hx2, hx⟩ := h4 (by omega)
    exact sd_o5 (c := 0) hF hO hZ hz ha hi hN hw hf hf2 hx hx2
  · obtain ⟨f, hf2, hf⟩ := h3 (by omega)
    exact sd_o6 (c := 0) (x := 0) hF hO hZ hz ha hi hN hw hf hf2
  · obtain ⟨f, hf2, hf⟩ := h3 (by omega)
    exact sd_o7 (c := 0) (x := 0) hF hO hZ hz ha hi hN hw hf hf2
  · exact sd_o8 (c := 0) (f := 0) (x := 0) hF hO hZ hz ha hi hN hw
  · exact sd_o9 (c := 0) (f := 0) (x := 0) hF hO hZ hz ha hi hN hw
  · obtain ⟨f, hf2, hf⟩ := h2 (by omega)
    obtain ⟨x, hx2, hx⟩ := h5 (by omega)
    exact sd_o10 (c := 0) hF hO hZ hz ha hi hN hw hf hf2 hx hx2
  · obtain ⟨f, hf2, hf⟩ := h2 (by omega)
    obtain ⟨x, hx2, hx⟩ := h6 (by omega)
    exact sd_o11 (c := 0) hF hO hZ hz ha hi hN hw hf hf2 hx hx2
  · obtain ⟨f, hf2, hf⟩ := h2 (by omega)
    obtain ⟨x, hx2, hx⟩ := h6 (by omega)
    exact sd_o12 (c := 0) hF hO hZ hz ha hi hN hw hf hf2 hx hx2
  · obtain ⟨f, hf2, hf⟩ := h2 (by omega)
    obtain ⟨x, hx2, hx⟩ := h6 (by omega)
    exact sd_o13 (c := 0) hF hO hZ hz ha hi hN hw hf hf2 hx hx2
  · obtain ⟨f, hf2, hf⟩ := h2 (by omega)
    obtain ⟨x, hx2, hx⟩ := h7 (by omega)
    exact sd_o14 (c := 0) hF hO hZ hz ha hi hN hw hf hf2 hx hx2
/-- an action, both sides at once -/
theorem sd_act {a N Z : Nat} {p q : Int32} (hO : sd_O ops opn ow oq ox) (hZ : Z ≤ 16) (hz : pz 49 = nI Z) (ha : a < 8) (hN : N ≤ 5) (hn : opn a = nI N) :
    ∀ (d i : Nat) (da ag : Int32) (fv hv rg mt : Nat → Int32), i + d = N → sd_F fw fv hv →
    ∃ (da' ag' : Int32) (fv' hv' rg' mt' : Nat → Int32), sd_F fw fv' hv' ∧ (∀ post : SX → Prop, post (sc, oc, bt, bb, da', ag', lo, tp, sb, sd, tk, fw, fv', hv', sts, ops, opn, rg', kf, kk, th, ens, mv, mm, sps, ho, pb, pz, rc, mr, md, mt', gp, qc, qq, qe, lc, tq) → wX_doAction_11 post (nI a) p q (nI N) (d + 1) (nI i) sc oc bt bb da ag lo tp sb sd tk fw fv hv sts ops opn rg kf kk th ens mv mm sps ho pb pz rc mr md mt gp qc qq qe lc tq) ∧ (∀ post : SY → Prop, post (sc, oc, tl, (nI (8 * Z)), bt, ma, ol, tp, sb, sd, tk, da', ag', gl, fw, fv', hv', ta, lk, go, ca, cv, cm, cg, opn, ow, oq, ox, rg', sw, sa, sz, sg, ho, kf, kk, ra, ac, ea, eb, ch, th, mv, mm, ty, bi, mk, rc, mr, md, mt', gp, yb, le, qc, qe, qq, tq, lc, gt) → wY_act_5 post (nI a) p q (d + 1) (nI (5 * a + i)) sc oc tl (nI (8 * Z)) bt ma ol tp sb sd tk da ag gl fw fv hv ta lk go ca cv cm cg opn ow oq ox rg sw sa sz sg ho kf kk ra ac ea eb ch th mv mm ty bi mk rc mr md mt gp yb le qc qe qq tq lc gt) := by
  have e5 : 5 * nI a + nI N = nI (5 * a + N) := sd_am a 5 N
  intro d
  induction d with
  | zero =>
    intro i da ag fv hv rg mt hi hF
    have : i = N := by omega
    subst this
    refine ⟨da, ag, fv, hv, rg, mt, hF, fun post hp => br_t (nI_le (Nat.le_refl _) (by omega)) hp, fun post hp => ⟨vp_in_nI ha (by decide), ?_⟩⟩
    rw [nI_clamp (n := a) (by omega), hn, e5]
    exact br_t (nI_le (Nat.le_refl _) (by omega)) hp
  | succ d ih =>
    intro i da ag fv hv rg mt hi hF
    obtain ⟨da1, ag1, fv1, hv1, rg1, mt1, k1, k2, k3⟩ := sd_o (sc := sc) (oc := oc) (bt := bt) (bb := bb) (da := da) (ag := ag) (lo := lo) (tp := tp) (sb := sb) (sd := sd) (tk := tk) (fw := fw) (fv := fv) (hv := hv) (sts := sts) (ops := ops) (opn := opn) (rg := rg) (kf := kf) (kk := kk) (th := th) (ens := ens) (mv := mv) (mm := mm) (sps := sps) (ho := ho) (pb := pb) (pz := pz) (rc := rc) (mr := mr) (md := md) (mt := mt) (gp := gp) (qc := qc) (qq := qq) (qe := qe) (lc := lc) (tq := tq) (tl := tl) (ma := ma) (ol := ol) (gl := gl) (ta := ta) (lk := lk) (go := go) (ca := ca) (cv := cv) (cm := cm) (cg := cg) (ow := ow) (oq := oq) (ox := ox) (sw := sw) (sa := sa) (sz := sz) (sg := sg) (ra := ra) (ac := ac) (ea := ea) (eb := eb) (ch := ch) (ty := ty) (bi := bi) (mk := mk) (yb := yb) (le := le) (gt := gt) (p := p) (q := q) hF hO hZ hz ha (show i < N by omega) hN
    obtain ⟨da2, ag2, fv2, hv2, rg2, mt2, j1, j2, j3⟩ := ih (i + 1) da1 ag1 fv1 hv1 rg1 mt1 (by omega) k1
    refine ⟨da2, ag2, fv2, hv2, rg2, mt2, j1, fun post hp => k2 post (d + 1) (j2 post hp), fun post hp => ⟨vp_in_nI ha (by decide), ?_⟩⟩
    rw [nI_clamp (n := a) (by omega), hn, e5]
    exact br_f (nI_ge (by omega) (by omega)) (k3 _ (nm_r (nI_1 _) (j3 post hp)))
end
