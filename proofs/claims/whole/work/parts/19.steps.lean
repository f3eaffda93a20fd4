section
variable {sc oc bt bb da ag lo tp sb sd tk : Int32} {fw fv hv sts ops opn rg kf kk th ens mv mm sps ho pb pz rc mr md mt gp qc qq qe lc tq : Nat → Int32} {tl tt ma ol dr ay gl : Int32} {ta lk go ca cv cm cg ow oq ox sw sa sz sg ra ac ea eb ch ty bi mk yb le gt : Nat → Int32}
theorem sx_nj {post : SX → Prop} {m i : Nat} (hp : wX_doSteps_14 post m (nI (i + 1)) (nI (i + 1)) sc oc bt bb da ag lo tp sb sd tk fw fv hv sts ops opn rg kf kk th ens mv mm sps ho pb pz rc mr md mt gp qc qq qe lc tq) : wX_doSteps_265 post (wX_doSteps_14 post m) (nI i) 0 sc oc bt bb da ag lo tp sb sd tk fw fv hv sts ops opn rg kf kk th ens mv mm sps ho pb pz rc mr md mt gp qc qq qe lc tq :=
  br_t rfl (nm_r (nI_1 i) (nm_r (nI_1 i) hp))
theorem sx_jj {post : SX → Prop} {m i g : Nat} (hi : i < 16) (hg : sps (i * 4 + 3) = nI g) (hp : wX_doSteps_14 post m (nI g) (nI (i + 1)) sc oc bt bb da ag lo tp sb sd tk fw fv hv sts ops opn rg kf kk th ens mv mm sps ho pb pz rc mr md mt gp qc qq qe lc tq) : wX_doSteps_265 post (wX_doSteps_14 post m) (nI i) 1 sc oc bt bb da ag lo tp sb sd tk fw fv hv sts ops opn rg kf kk th ens mv mm sps ho pb pz rc mr md mt gp qc qq qe lc tq := by
  have e : nI i * 4 + 3 = nI (i * 4 + 3) := sd_ma i 4 3
  refine br_f sd_10 ⟨by rw [e]; exact vp_in_nI (by omega) (by decide), ?_⟩
  rw [e, nI_clamp (by omega)]
  exact nm_r hg (nm_r (nI_1 i) hp)
theorem sx_row {post : Int32 → Prop} {t row : Nat} {xc : Int32} (ht : t < 4) (hr : (xc = -1 ∧ row = 13 * t + 12) ∨ ∃ e' : Nat, e' < 12 ∧ xc = nI e' ∧ row = 13 * t + e') (h : post (nI row)) : wpX_rowOf post (nI t) xc := by
  rcases hr with ⟨h1, h2⟩ | ⟨e', h0, h1, h2⟩
  · subst h1 h2
    refine br_t rfl ?_
    have e : nI t * 13 + 12 = nI (13 * t + 12) := sd_13' t 12
    rw [e]; exact h
  · subst h1 h2
    refine br_f (sd_ne (by omega)) ?_
    rw [sd_13']; exact h
theorem sd_s5 {i N Z : Nat} {g : Nat} (hF : sd_F fw fv hv) (hE : sd_E kf kk th ens mm ra ac ea eb ch) (hO : sd_O ops opn ow oq ox) (hA : ∀ i, i < 16 → sps (i * 4) = sw i ∧ sps (i * 4 + 1) = sa i ∧ sps (i * 4 + 2) = sz i ∧ sps (i * 4 + 3) = sg i) (hN : N ≤ 16) (hi : i < N) (hZ : Z ≤ 16) (hz : pz 49 = nI Z) (hw : sw i = nI 5) (hg : sg i = nI g) (hg1 : i < g) (hg2 : g ≤ 16) : ∃ (j : Nat) (sd' da' ag' : Int32) (fv' hv' rg' mt' ens' ch' : Nat → Int32), i + 1 ≤ j ∧ j ≤ 16 ∧ sd_F fw fv' hv' ∧ sd_E kf kk th ens' mm ra ac ea eb ch' ∧ (∀ (post : SX → Prop) (m : Nat), wX_doSteps_14 post m (nI j) (nI (i + 1)) (nI N) oc bt bb da' ag' lo tp sb sd' tk fw fv' hv' sts ops opn rg' kf kk th ens' mv mm sps ho pb pz rc mr md mt' gp qc qq qe lc tq → wX_doSteps_14 post (m + 1) (nI i) (nI i) (nI N) oc bt bb da ag lo tp sb sd tk fw fv hv sts ops opn rg kf kk th ens mv mm sps ho pb pz rc mr md mt gp qc qq qe lc tq) ∧ (∀ post : Int32 → SY → Prop, post (nI j) ((nI N), oc, tl, (nI (8 * Z)), bt, ma, ol, tp, sb, sd', tk, da', ag', gl, fw, fv', hv', ta, lk, go, ca, cv, cm, cg, opn, ow, oq, ox, rg', sw, sa, sz, sg, ho, kf, kk, ra, ac, ea, eb, ch', th, mv, mm, ty, bi, mk, rc, mr, md, mt', gp, yb, le, qc, qe, qq, tq, lc, gt) → wpY_go post ((nI N), oc, tl, (nI (8 * Z)), bt, ma, ol, tp, sb, sd, tk, da, ag, gl, fw, fv, hv, ta, lk, go, ca, cv, cm, cg, opn, ow, oq, ox, rg, sw, sa, sz, sg, ho, kf, kk, ra, ac, ea, eb, ch, th, mv, mm, ty, bi, mk, rc, mr, md, mt, gp, yb, le, qc, qe, qq, tq, lc, gt) (nI i)) := by
  obtain ⟨g0, g1, g2, g3⟩ := hA i (by omega)
  have e0 : nI i * 4 = nI (i * 4) := pk_mul i 4
  have e1 : nI i * 4 + 1 = nI (i * 4 + 1) := sd_ma i 4 1
  have e2 : nI i * 4 + 2 = nI (i * 4 + 2) := sd_ma i 4 2
  have i0 : vp_in (nI i * 4) 64 := by rw [e0]; exact vp_in_nI (by omega) (by decide)
  have i1 : vp_in (nI i * 4 + 1) 64 := by rw [e1]; exact vp_in_nI (by omega) (by decide)
  have i2 : vp_in (nI i * 4 + 2) 64 := by rw [e2]; exact vp_in_nI (by omega) (by decide)
  have v0 : sps (nI i * 4).toNatClampNeg = sw i := by rw [e0, nI_clamp (by omega)]; exact g0
  have v1 : sps (nI i * 4 + 1).toNatClampNeg = sa i := by rw [e1, nI_clamp (by omega)]; exact g1
  have v2 : sps (nI i * 4 + 2).toNatClampNeg = sz i := by rw [e2, nI_clamp (by omega)]; exact g2
  have w0 : vp_in (nI i) 16 := vp_in_nI (by omega) (by decide)
  have u0 : sw (nI i).toNatClampNeg = sw i := by rw [nI_clamp (by omega)]
  have u1 : sa (nI i).toNatClampNeg = sa i := by rw [nI_clamp (by omega)]
  have u2 : sz (nI i).toNatClampNeg = sz i := by rw [nI_clamp (by omega)]
  have u3 : sg (nI i).toNatClampNeg = sg i := by rw [nI_clamp (by omega)]
  have cn : ¬ nI N ≤ nI i := nI_ge hi (by omega)
  have ci : nI i ≤ nI i := nI_le (Nat.le_refl _) (by omega)
  refine ⟨g, sd + 1, da, ag, fv, hv, rg, mt, ens, ch, by omega, hg2, hF, hE, fun post m hp => ?_, fun post hp => ?_⟩
  · exact br_f cn (br_t ci (nm_e ⟨i1, nm_r v1 ⟨i2, nm_r v2 ⟨i0, nm_r (v0.trans hw) (br_f (by decide) (br_t (by decide) (sx_jj (by omega) (g3.trans hg) hp)))⟩⟩⟩))
  · exact ⟨w0, nm_r u1 ⟨w0, nm_r u2 (nm_e ⟨w0, nm_r (u0.trans hw) (br_f (by decide) (br_t (by decide) (⟨w0, by rw [u3, hg]; exact hp⟩)))⟩)⟩⟩
theorem sd_s2 {i N Z : Nat} {g : Nat} {a : Nat} (hF : sd_F fw fv hv) (hE : sd_E kf kk th ens mm ra ac ea eb ch) (hO : sd_O ops opn ow oq ox) (hA : ∀ i, i < 16 → sps (i * 4) = sw i ∧ sps (i * 4 + 1) = sa i ∧ sps (i * 4 + 2) = sz i ∧ sps (i * 4 + 3) = sg i) (hN : N ≤ 16) (hi : i < N) (hZ : Z ≤ 16) (hz : pz 49 = nI Z) (hw : sw i = nI 2) (hg : sg i = nI g) (hg1 : i < g) (hg2 : g ≤ 16) (ha : sa i = nI a) (ha2 : a < 28) : ∃ (j : Nat) (sd' da' ag' : Int32) (fv' hv' rg' mt' ens' ch' : Nat → Int32), i + 1 ≤ j ∧ j ≤ 16 ∧ sd_F fw fv' hv' ∧ sd_E kf kk th ens' mm ra ac ea eb ch' ∧ (∀ (post : SX → Prop) (m : Nat), wX_doSteps_14 post m (nI j) (nI (i + 1)) (nI N) oc bt bb da' ag' lo tp sb sd' tk fw fv' hv' sts ops opn rg' kf kk th ens' mv mm sps ho pb pz rc mr md mt' gp qc qq qe lc tq → wX_doSteps_14 post (m + 1) (nI i) (nI i) (nI N) oc bt bb da ag lo tp sb sd tk fw fv hv sts ops opn rg kf kk th ens mv mm sps ho pb pz rc mr md mt gp qc qq qe lc tq) ∧ (∀ post : Int32 → SY → Prop, post (nI j) ((nI N), oc, tl, (nI (8 * Z)), bt, ma, ol, tp, sb, sd', tk, da', ag', gl, fw, fv', hv', ta, lk, go, ca, cv, cm, cg, opn, ow, oq, ox, rg', sw, sa, sz, sg, ho, kf, kk, ra, ac, ea, eb, ch', th, mv, mm, ty, bi, mk, rc, mr, md, mt', gp, yb, le, qc, qe, qq, tq, lc, gt) → wpY_go post ((nI N), oc, tl, (nI (8 * Z)), bt, ma, ol, tp, sb, sd, tk, da, ag, gl, fw, fv, hv, ta, lk, go, ca, cv, cm, cg, opn, ow, oq, ox, rg, sw, sa, sz, sg, ho, kf, kk, ra, ac, ea, eb, ch, th, mv, mm, ty, bi, mk, rc, mr, md, mt, gp, yb, le, qc, qe, qq, tq, lc, gt) (nI i)) := by
  obtain ⟨g0, g1, g2, g3⟩ := hA i (by omega)
  have e0 : nI i * 4 = nI (i * 4) := pk_mul i 4
  have e1 : nI i * 4 + 1 = nI (i * 4 + 1) := sd_ma i 4 1
  have e2 : nI i * 4 + 2 = nI (i * 4 + 2) := sd_ma i 4 2
  have i0 : vp_in (nI i * 4) 64 := by rw [e0]; exact vp_in_nI (by omega) (by decide)
  have i1 : vp_in (nI i * 4 + 1) 64 := by rw [e1]; exact vp_in_nI (by omega) (by decide)
  have i2 : vp_in (nI i * 4 + 2) 64 := by rw [e2]; exact vp_in_nI (by omega) (by decide)
  have v0 : sps (nI i * 4).toNatClampNeg = sw i := by rw [e0, nI_clamp (by omega)]; exact g0
  have v1 : sps (nI i * 4 + 1).toNatClampNeg = sa i := by rw [e1, nI_clamp (by omega)]; exact g1
  have v2 : sps (nI i * 4 + 2).toNatClampNeg = sz i := by rw [e2, nI_clamp (by omega)]; exact g2
  have w0 : vp_in (nI i) 16 := vp_in_nI (by omega) (by decide)
  have u0 : sw (nI i).toNatClampNeg = sw i := by rw [nI_clamp (by omega)]
  have u1 : sa (nI i).toNatClampNeg = sa i := by rw [nI_clamp (by omega)]
  have u2 : sz (nI i).toNatClampNeg = sz i := by rw [nI_clamp (by omega)]
  have u3 : sg (nI i).toNatClampNeg = sg i := by rw [nI_clamp (by omega)]
  have cn : ¬ nI N ≤ nI i := nI_ge hi (by omega)
  have ci : nI i ≤ nI i := nI_le (Nat.le_refl _) (by omega)
  have c28 : vp_in (nI a) 28 := vp_in_nI ha2 (by decide)
  have fe : fv (nI a).toNatClampNeg = fv a := by rw [nI_clamp (by omega)]
  by_cases z : fv (nI a).toNatClampNeg = sz i
  · refine ⟨i + 1, sd + 1, da, ag, fv, hv, rg, mt, ens, ch, by omega, by omega, hF, hE, fun post m hp => ?_, fun post hp => ?_⟩
    · exact br_f cn (br_t ci (nm_e ⟨i1, nm_r (v1.trans ha) ⟨i2, nm_r v2 ⟨i0, nm_r (v0.trans hw) (br_f (by decide) (br_f (by decide) (br_f (by decide) (br_f (by decide) (br_t rfl (⟨c28, br_t z (sx_nj hp)⟩))))))⟩⟩⟩))
    · exact ⟨w0, nm_r (u1.trans ha) ⟨w0, nm_r u2 (nm_e ⟨w0, nm_r (u0.trans hw) (br_f (by decide) (br_f (by decide) (br_f (by decide) (br_f (by decide) (br_t rfl (⟨c28, br_t z (by rw [nI_1]; exact hp)⟩))))))⟩)⟩⟩
  · refine ⟨g, sd + 1, da, ag, fv, hv, rg, mt, ens, ch, by omega, hg2, hF, hE, fun post m hp => ?_, fun post hp => ?_⟩
    · exact br_f cn (br_t ci (nm_e ⟨i1, nm_r (v1.trans ha) ⟨i2, nm_r v2 ⟨i0, nm_r (v0.trans hw) (br_f (by decide) (br_f (by decide) (br_f (by decide) (br_f (by decide) (br_t rfl (⟨c28, br_f z (sx_jj (by omega) (g3.trans hg) hp)⟩))))))⟩⟩⟩))
    · exact ⟨w0, nm_r (u1.trans ha) ⟨w0, nm_r u2 (nm_e ⟨w0, nm_r (u0.trans hw) (br_f (by decide) (br_f (by decide) (br_f (by decide) (br_f (by decide) (br_t rfl (⟨c28, br_f z ⟨w0, by rw [u3, hg]; exact hp⟩⟩))))))⟩)⟩⟩
theorem sd_s3 {i N Z : Nat} {g : Nat} {a : Nat} (hF : sd_F fw fv hv) (hE : sd_E kf kk th ens mm ra ac ea eb ch) (hO : sd_O ops opn ow oq ox) (hA : ∀ i, i < 16 → sps (i * 4) = sw i ∧ sps (i * 4 + 1) = sa i ∧ sps (i * 4 + 2) = sz i ∧ sps (i * 4 + 3) = sg i) (hN : N ≤ 16) (hi : i < N) (hZ : Z ≤ 16) (hz : pz 49 = nI Z) (hw : sw i = nI 3) (hg : sg i = nI g) (hg1 : i < g) (hg2 : g ≤ 16) (ha : sa i = nI a) (ha2 : a < 6) : ∃ (j : Nat) (sd' da' ag' : Int32) (fv' hv' rg' mt' ens' ch' : Nat → Int32), i + 1 ≤ j ∧ j ≤ 16 ∧ sd_F fw fv' hv' ∧ sd_E kf kk th ens' mm ra ac ea eb ch' ∧ (∀ (post : SX → Prop) (m : Nat), wX_doSteps_14 post m (nI j) (nI (i + 1)) (nI N) oc bt bb da' ag' lo tp sb sd' tk fw fv' hv' sts ops opn rg' kf kk th ens' mv mm sps ho pb pz rc mr md mt' gp qc qq qe lc tq → wX_doSteps_14 post (m + 1) (nI i) (nI i) (nI N) oc bt bb da ag lo tp sb sd tk fw fv hv sts ops opn rg kf kk th ens mv mm sps ho pb pz rc mr md mt gp qc qq qe lc tq) ∧ (∀ post : Int32 → SY → Prop, post (nI j) ((nI N), oc, tl, (nI (8 * Z)), bt, ma, ol, tp, sb, sd', tk, da', ag', gl, fw, fv', hv', ta, lk, go, ca, cv, cm, cg, opn, ow, oq, ox, rg', sw, sa, sz, sg, ho, kf, kk, ra, ac, ea, eb, ch', th, mv, mm, ty, bi, mk, rc, mr, md, mt', gp, yb, le, qc, qe, qq, tq, lc, gt) → wpY_go post ((nI N), oc, tl, (nI (8 * Z)), bt, ma, ol, tp, sb, sd, tk, da, ag, gl, fw, fv, hv, ta, lk, go, ca, cv, cm, cg, opn, ow, oq, ox, rg, sw, sa, sz, sg, ho, kf, kk, ra, ac, ea, eb, ch, th, mv, mm, ty, bi, mk, rc, mr, md, mt, gp, yb, le, qc, qe, qq, tq, lc, gt) (nI i)) := by
  obtain ⟨g0, g1, g2, g3⟩ := hA i (by omega)
  have e0 : nI i * 4 = nI (i * 4) := pk_mul i 4
  have e1 : nI i * 4 + 1 = nI (i * 4 + 1) := sd_ma i 4 1
  have e2 : nI i * 4 + 2 = nI (i * 4 + 2) := sd_ma i 4 2
  have i0 : vp_in (nI i * 4) 64 := by rw [e0]; exact vp_in_nI (by omega) (by decide)
  have i1 : vp_in (nI i * 4 + 1) 64 := by rw [e1]; exact vp_in_nI (by omega) (by decide)
  have i2 : vp_in (nI i * 4 + 2) 64 := by rw [e2]; exact vp_in_nI (by omega) (by decide)
  have v0 : sps (nI i * 4).toNatClampNeg = sw i := by rw [e0, nI_clamp (by omega)]; exact g0
  have v1 : sps (nI i * 4 + 1).toNatClampNeg = sa i := by rw [e1, nI_clamp (by omega)]; exact g1
  have v2 : sps (nI i * 4 + 2).toNatClampNeg = sz i := by rw [e2, nI_clamp (by omega)]; exact g2
  have w0 : vp_in (nI i) 16 := vp_in_nI (by omega) (by decide)
  have u0 : sw (nI i).toNatClampNeg = sw i := by rw [nI_clamp (by omega)]
  have u1 : sa (nI i).toNatClampNeg = sa i := by rw [nI_clamp (by omega)]
  have u2 : sz (nI i).toNatClampNeg = sz i := by rw [nI_clamp (by omega)]
  have u3 : sg (nI i).toNatClampNeg = sg i := by rw [nI_clamp (by omega)]
  have cn : ¬ nI N ≤ nI i := nI_ge hi (by omega)
  have ci : nI i ≤ nI i := nI_le (Nat.le_refl _) (by omega)
  have c6 : vp_in (nI a) 6 := vp_in_nI ha2 (by decide)
  by_cases z : hv (nI a).toNatClampNeg = 0
  · refine ⟨g, sd + 1, da, ag, fv, hv, rg, mt, ens, ch, by omega, hg2, hF, hE, fun post m hp => ?_, fun post hp => ?_⟩
    · exact br_f cn (br_t ci (nm_e ⟨i1, nm_r (v1.trans ha) ⟨i2, nm_r v2 ⟨i0, nm_r (v0.trans hw) (br_f (by decide) (br_f (by decide) (br_f (by decide) (br_f (by decide) (br_f (by decide) (br_t rfl (⟨c6, br_t z (sx_jj (by omega) (g3.trans hg) hp)⟩)))))))⟩⟩⟩))
    · exact ⟨w0, nm_r (u1.trans ha) ⟨w0, nm_r u2 (nm_e ⟨w0, nm_r (u0.trans hw) (br_f (by decide) (br_f (by decide) (br_f (by decide) (br_f (by decide) (br_f (by decide) (br_t rfl (⟨c6, br_t z ⟨w0, by rw [u3, hg]; exact hp⟩⟩)))))))⟩)⟩⟩
  · refine ⟨i + 1, sd + 1, da, ag, fv, hv, rg, mt, ens, ch, by omega, by omega, hF, hE, fun post m hp => ?_, fun post hp => ?_⟩
    · exact br_f cn (br_t ci (nm_e ⟨i1, nm_r (v1.trans ha) ⟨i2, nm_r v2 ⟨i0, nm_r (v0.trans hw) (br_f (by decide) (br_f (by decide) (br_f (by decide) (br_f (by decide) (br_f (by decide) (br_t rfl (⟨c6, br_f z (sx_nj hp)⟩)))))))⟩⟩⟩))
    · exact ⟨w0, nm_r (u1.trans ha) ⟨w0, nm_r u2 (nm_e ⟨w0, nm_r (u0.trans hw) (br_f (by decide) (br_f (by decide) (br_f (by decide) (br_f (by decide) (br_f (by decide) (br_t rfl (⟨c6, br_f z (by rw [nI_1]; exact hp)⟩)))))))⟩)⟩⟩
theorem sd_s4 {i N Z : Nat} {g : Nat} {a b : Nat} (hF : sd_F fw fv hv) (hE : sd_E kf kk th ens mm ra ac ea eb ch) (hO : sd_O ops opn ow oq ox) (hA : ∀ i, i < 16 → sps (i * 4) = sw i ∧ sps (i * 4 + 1) = sa i ∧ sps (i * 4 + 2) = sz i ∧ sps (i * 4 + 3) = sg i) (hN : N ≤ 16) (hi : i < N) (hZ : Z ≤ 16) (hz : pz 49 = nI Z) (hw : sw i = nI 4) (hg : sg i = nI g) (hg1 : i < g) (hg2 : g ≤ 16) (ha : sa i = nI a) (ha2 : a < 28) (hb : sz i = nI b) (hb2 : b < 28) : ∃ (j : Nat) (sd' da' ag' : Int32) (fv' hv' rg' mt' ens' ch' : Nat → Int32), i + 1 ≤ j ∧ j ≤ 16 ∧ sd_F fw fv' hv' ∧ sd_E kf kk th ens' mm ra ac ea eb ch' ∧ (∀ (post : SX → Prop) (m : Nat), wX_doSteps_14 post m (nI j) (nI (i + 1)) (nI N) oc bt bb da' ag' lo tp sb sd' tk fw fv' hv' sts ops opn rg' kf kk th ens' mv mm sps ho pb pz rc mr md mt' gp qc qq qe lc tq → wX_doSteps_14 post (m + 1) (nI i) (nI i) (nI N) oc bt bb da ag lo tp sb sd tk fw fv hv sts ops opn rg kf kk th ens mv mm sps ho pb pz rc mr md mt gp qc qq qe lc tq) ∧ (∀ post : Int32 → SY → Prop, post (nI j) ((nI N), oc, tl, (nI (8 * Z)), bt, ma, ol, tp, sb, sd', tk, da', ag', gl, fw, fv', hv', ta, lk, go, ca, cv, cm, cg, opn, ow, oq, ox, rg', sw, sa, sz, sg, ho, kf, kk, ra, ac, ea, eb, ch', th, mv, mm, ty, bi, mk, rc, mr, md, mt', gp, yb, le, qc, qe, qq, tq, lc, gt) → wpY_go post ((nI N), oc, tl, (nI (8 * Z)), bt, ma, ol, tp, sb, sd, tk, da, ag, gl, fw, fv, hv, ta, lk, go, ca, cv, cm, cg, opn, ow, oq, ox, rg, sw, sa, sz, sg, ho, kf, kk, ra, ac, ea, eb, ch, th, mv, mm, ty, bi, mk, rc, mr, md, mt, gp, yb, le, qc, qe, qq, tq, lc, gt) (nI i)) := by
  obtain ⟨g0, g1, g2, g3⟩ := hA i (by omega)
  have e0 : nI i * 4 = nI (i * 4) := pk_mul i 4
  have e1 : nI i * 4 + 1 = nI (i * 4 + 1) := sd_ma i 4 1
  have e2 : nI i * 4 + 2 = nI (i * 4 + 2) := sd_ma i 4 2
  have i0 : vp_in (nI i * 4) 64 := by rw [e0]; exact vp_in_nI (by omega) (by decide)
  have i1 : vp_in (nI i * 4 + 1) 64 := by rw [e1]; exact vp_in_nI (by omega) (by decide)
  have i2 : vp_in (nI i * 4 + 2) 64 := by rw [e2]; exact vp_in_nI (by omega) (by decide)
  have v0 : sps (nI i * 4).toNatClampNeg = sw i := by rw [e0, nI_clamp (by omega)]; exact g0
  have v1 : sps (nI i * 4 + 1).toNatClampNeg = sa i := by rw [e1, nI_clamp (by omega)]; exact g1
  have v2 : sps (nI i * 4 + 2).toNatClampNeg = sz i := by rw [e2, nI_clamp (by omega)]; exact g2
  have w0 : vp_in (nI i) 16 := vp_in_nI (by omega) (by decide)
  have u0 : sw (nI i).toNatClampNeg = sw i := by rw [nI_clamp (by omega)]
  have u1 : sa (nI i).toNatClampNeg = sa i := by rw [nI_clamp (by omega)]
  have u2 : sz (nI i).toNatClampNeg = sz i := by rw [nI_clamp (by omega)]
  have u3 : sg (nI i).toNatClampNeg = sg i := by rw [nI_clamp (by omega)]
  have cn : ¬ nI N ≤ nI i := nI_ge hi (by omega)
  have ci : nI i ≤ nI i := nI_le (Nat.le_refl _) (by omega)
  have c28 : vp_in (nI a) 28 := vp_in_nI ha2 (by decide)
  have d28 : vp_in (nI b) 28 := vp_in_nI hb2 (by decide)
  by_cases z : fv (nI a).toNatClampNeg < fv (nI b).toNatClampNeg
  · refine ⟨i + 1, sd + 1, da, ag, fv, hv, rg, mt, ens, ch, by omega, by omega, hF, hE, fun post m hp => ?_, fun post hp => ?_⟩
    · exact br_f cn (br_t ci (nm_e ⟨i1, nm_r (v1.trans ha) ⟨i2, nm_r (v2.trans hb) ⟨i0, nm_r (v0.trans hw) (br_f (by decide) (br_f (by decide) (br_f (by decide) (br_f (by decide) (br_f (by decide) (br_f (by decide) (br_t rfl (⟨c28, d28, br_t z (sx_nj hp)⟩))))))))⟩⟩⟩))
    · exact ⟨w0, nm_r (u1.trans ha) ⟨w0, nm_r (u2.trans hb) (nm_e ⟨w0, nm_r (u0.trans hw) (br_f (by decide) (br_f (by decide) (br_f (by decide) (br_f (by decide) (br_f (by decide) (br_f (by decide) (br_t rfl (⟨c28, d28, br_f (Int32.not_le.mpr z) (by rw [nI_1]; exact hp)⟩))))))))⟩)⟩⟩
  · refine ⟨g, sd + 1, da, ag, fv, hv, rg, mt, ens, ch, by omega, hg2, hF, hE, fun post m hp => ?_, fun post hp => ?_⟩
    · exact br_f cn (br_t ci (nm_e ⟨i1, nm_r (v1.trans ha) ⟨i2, nm_r (v2.trans hb) ⟨i0, nm_r (v0.trans hw) (br_f (by decide) (br_f (by decide) (br_f (by decide) (br_f (by decide) (br_f (by decide) (br_f (by decide) (br_t rfl (⟨c28, d28, br_f z (sx_jj (by omega) (g3.trans hg) hp)⟩))))))))⟩⟩⟩))
    · exact ⟨w0, nm_r (u1.trans ha) ⟨w0, nm_r (u2.trans hb) (nm_e ⟨w0, nm_r (u0.trans hw) (br_f (by decide) (br_f (by decide) (br_f (by decide) (br_f (by decide) (br_f (by decide) (br_f (by decide) (br_t rfl (⟨c28, d28, br_t (Int32.not_lt.mp z) ⟨w0, by rw [u3, hg]; exact hp⟩⟩))))))))⟩)⟩⟩
theorem sd_s1 {i N Z : Nat} {a : Nat} (hF : sd_F fw fv hv) (hE : sd_E kf kk th ens mm ra ac ea eb ch) (hO : sd_O ops opn ow oq ox) (hA : ∀ i, i < 16 → sps (i * 4) = sw i ∧ sps (i * 4 + 1) = sa i ∧ sps (i * 4 + 2) = sz i ∧ sps (i * 4 + 3) = sg i) (hN : N ≤ 16) (hi : i < N) (hZ : Z ≤ 16) (hz : pz 49 = nI Z) (hw : sw i = nI 1) (ha : sa i = nI a) (ha2 : a < 8) : ∃ (j : Nat) (sd' da' ag' : Int32) (fv' hv' rg' mt' ens' ch' : Nat → Int32), i + 1 ≤ j ∧ j ≤ 16 ∧ sd_F fw fv' hv' ∧ sd_E kf kk th ens' mm ra ac ea eb ch' ∧ (∀ (post : SX → Prop) (m : Nat), wX_doSteps_14 post m (nI j) (nI (i + 1)) (nI N) oc bt bb da' ag' lo tp sb sd' tk fw fv' hv' sts ops opn rg' kf kk th ens' mv mm sps ho pb pz rc mr md mt' gp qc qq qe lc tq → wX_doSteps_14 post (m + 1) (nI i) (nI i) (nI N) oc bt bb da ag lo tp sb sd tk fw fv hv sts ops opn rg kf kk th ens mv mm sps ho pb pz rc mr md mt gp qc qq qe lc tq) ∧ (∀ post : Int32 → SY → Prop, post (nI j) ((nI N), oc, tl, (nI (8 * Z)), bt, ma, ol, tp, sb, sd', tk, da', ag', gl, fw, fv', hv', ta, lk, go, ca, cv, cm, cg, opn, ow, oq, ox, rg', sw, sa, sz, sg, ho, kf, kk, ra, ac, ea, eb, ch', th, mv, mm, ty, bi, mk, rc, mr, md, mt', gp, yb, le, qc, qe, qq, tq, lc, gt) → wpY_go post ((nI N), oc, tl, (nI (8 * Z)), bt, ma, ol, tp, sb, sd, tk, da, ag, gl, fw, fv, hv, ta, lk, go, ca, cv, cm, cg, opn, ow, oq, ox, rg, sw, sa, sz, sg, ho, kf, kk, ra, ac, ea, eb, ch, th, mv, mm, ty, bi, mk, rc, mr, md, mt, gp, yb, le, qc, qe, qq, tq, lc, gt) (nI i)) := by
  obtain ⟨g0, g1, g2, g3⟩ := hA i (by omega)
  have e0 : nI i * 4 = nI (i * 4) := pk_mul i 4
  have e1 : nI i * 4 + 1 = nI (i * 4 + 1) := sd_ma i 4 1
  have e2 : nI i * 4 + 2 = nI (i * 4 + 2) := sd_ma i 4 2
  have i0 : vp_in (nI i * 4) 64 := by rw [e0]; exact vp_in_nI (by omega) (by decide)
  have i1 : vp_in (nI i * 4 + 1) 64 := by rw [e1]; exact vp_in_nI (by omega) (by decide)
  have i2 : vp_in (nI i * 4 + 2) 64 := by rw [e2]; exact vp_in_nI (by omega) (by decide)
  have v0 : sps (nI i * 4).toNatClampNeg = sw i := by rw [e0, nI_clamp (by omega)]; exact g0
  have v1 : sps (nI i * 4 + 1).toNatClampNeg = sa i := by rw [e1, nI_clamp (by omega)]; exact g1
  have v2 : sps (nI i * 4 + 2).toNatClampNeg = sz i := by rw [e2, nI_clamp (by omega)]; exact g2
  have w0 : vp_in (nI i) 16 := vp_in_nI (by omega) (by decide)
  have u0 : sw (nI i).toNatClampNeg = sw i := by rw [nI_clamp (by omega)]
  have u1 : sa (nI i).toNatClampNeg = sa i := by rw [nI_clamp (by omega)]
  have u2 : sz (nI i).toNatClampNeg = sz i := by rw [nI_clamp (by omega)]
  have u3 : sg (nI i).toNatClampNeg = sg i := by rw [nI_clamp (by omega)]
  have cn : ¬ nI N ≤ nI i := nI_ge hi (by omega)
  have ci : nI i ≤ nI i := nI_le (Nat.le_refl _) (by omega)
  obtain ⟨da', ag', fv', hv', rg', mt', k1, k2, k3⟩ := sd_actw (sc := (nI N)) (oc := oc) (bt := bt) (bb := bb) (da := da) (ag := ag) (lo := lo) (tp := tp) (sb := sb) (sd := (sd + 1)) (tk := tk) (fw := fw) (fv := fv) (hv := hv) (sts := sts) (ops := ops) (opn := opn) (rg := rg) (kf := kf) (kk := kk) (th := th) (ens := ens) (mv := mv) (mm := mm) (sps := sps) (ho := ho) (pb := pb) (pz := pz) (rc := rc) (mr := mr) (md := md) (mt := mt) (gp := gp) (qc := qc) (qq := qq) (qe := qe) (lc := lc) (tq := tq) (tl := tl) (ma := ma) (ol := ol) (gl := gl) (ta := ta) (lk := lk) (go := go) (ca := ca) (cv := cv) (cm := cm) (cg := cg) (ow := ow) (oq := oq) (ox := ox) (sw := sw) (sa := sa) (sz := sz) (sg := sg) (ra := ra) (ac := ac) (ea := ea) (eb := eb) (ch := ch) (ty := ty) (bi := bi) (mk := mk) (yb := yb) (le := le) (gt := gt) (p := sz i) (q := 0) hF hO hZ hz ha2
  refine ⟨i + 1, sd + 1, da', ag', fv', hv', rg', mt', ens, ch, by omega, by omega, k1, hE, fun post m hp => ?_, fun post hp => ?_⟩
  · exact br_f cn (br_t ci (nm_e ⟨i1, nm_r (v1.trans ha) ⟨i2, nm_r v2 ⟨i0, nm_r (v0.trans hw) (br_f (by decide) (br_f (by decide) (br_f (by decide) (br_t rfl (k2 _ (sx_nj hp))))))⟩⟩⟩))
  · exact ⟨w0, nm_r (u1.trans ha) ⟨w0, nm_r u2 (nm_e ⟨w0, nm_r (u0.trans hw) (br_f (by decide) (br_f (by decide) (br_f (by decide) (br_t rfl (k3 _ (by rw [nI_1]; exact hp))))))⟩)⟩⟩
theorem sd_s0 {i N Z : Nat} {g : Nat} {t : Nat} (hF : sd_F fw fv hv) (hE : sd_E kf kk th ens mm ra ac ea eb ch) (hO : sd_O ops opn ow oq ox) (hA : ∀ i, i < 16 → sps (i * 4) = sw i ∧ sps (i * 4 + 1) = sa i ∧ sps (i * 4 + 2) = sz i ∧ sps (i * 4 + 3) = sg i) (hN : N ≤ 16) (hi : i < N) (hZ : Z ≤ 16) (hz : pz 49 = nI Z) (hw : sw i = nI 0) (hg : sg i = nI g) (hg1 : i < g) (hg2 : g ≤ 16) (ht : sa i = nI t) (ht2 : t < 4) : ∃ (j : Nat) (sd' da' ag' : Int32) (fv' hv' rg' mt' ens' ch' : Nat → Int32), i + 1 ≤ j ∧ j ≤ 16 ∧ sd_F fw fv' hv' ∧ sd_E kf kk th ens' mm ra ac ea eb ch' ∧ (∀ (post : SX → Prop) (m : Nat), wX_doSteps_14 post m (nI j) (nI (i + 1)) (nI N) oc bt bb da' ag' lo tp sb sd' tk fw fv' hv' sts ops opn rg' kf kk th ens' mv mm sps ho pb pz rc mr md mt' gp qc qq qe lc tq → wX_doSteps_14 post (m + 1) (nI i) (nI i) (nI N) oc bt bb da ag lo tp sb sd tk fw fv hv sts ops opn rg kf kk th ens mv mm sps ho pb pz rc mr md mt gp qc qq qe lc tq) ∧ (∀ post : Int32 → SY → Prop, post (nI j) ((nI N), oc, tl, (nI (8 * Z)), bt, ma, ol, tp, sb, sd', tk, da', ag', gl, fw, fv', hv', ta, lk, go, ca, cv, cm, cg, opn, ow, oq, ox, rg', sw, sa, sz, sg, ho, kf, kk, ra, ac, ea, eb, ch', th, mv, mm, ty, bi, mk, rc, mr, md, mt', gp, yb, le, qc, qe, qq, tq, lc, gt) → wpY_go post ((nI N), oc, tl, (nI (8 * Z)), bt, ma, ol, tp, sb, sd, tk, da, ag, gl, fw, fv, hv, ta, lk, go, ca, cv, cm, cg, opn, ow, oq, ox, rg, sw, sa, sz, sg, ho, kf, kk, ra, ac, ea, eb, ch, th, mv, mm, ty, bi, mk, rc, mr, md, mt, gp, yb, le, qc, qe, qq, tq, lc, gt) (nI i)) := by
  obtain ⟨g0, g1, g2, g3⟩ := hA i (by omega)
  have e0 : nI i * 4 = nI (i * 4) := pk_mul i 4
  have e1 : nI i * 4 + 1 = nI (i * 4 + 1) := sd_ma i 4 1
  have e2 : nI i * 4 + 2 = nI (i * 4 + 2) := sd_ma i 4 2
  have i0 : vp_in (nI i * 4) 64 := by rw [e0]; exact vp_in_nI (by omega) (by decide)
  have i1 : vp_in (nI i * 4 + 1) 64 := by rw [e1]; exact vp_in_nI (by omega) (by decide)
  have i2 : vp_in (nI i * 4 + 2) 64 := by rw [e2]; exact vp_in_nI (by omega) (by decide)
  have v0 : sps (nI i * 4).toNatClampNeg = sw i := by rw [e0, nI_clamp (by omega)]; exact g0
  have v1 : sps (nI i * 4 + 1).toNatClampNeg = sa i := by rw [e1, nI_clamp (by omega)]; exact g1
  have v2 : sps (nI i * 4 + 2).toNatClampNeg = sz i := by rw [e2, nI_clamp (by omega)]; exact g2
  have w0 : vp_in (nI i) 16 := vp_in_nI (by omega) (by decide)
  have u0 : sw (nI i).toNatClampNeg = sw i := by rw [nI_clamp (by omega)]
  have u1 : sa (nI i).toNatClampNeg = sa i := by rw [nI_clamp (by omega)]
  have u2 : sz (nI i).toNatClampNeg = sz i := by rw [nI_clamp (by omega)]
  have u3 : sg (nI i).toNatClampNeg = sg i := by rw [nI_clamp (by omega)]
  have cn : ¬ nI N ≤ nI i := nI_ge hi (by omega)
  have ci : nI i ≤ nI i := nI_le (Nat.le_refl _) (by omega)
  obtain ⟨xc, row, hr, c2, c3⟩ := sd_choose (sc := (nI N)) (oc := oc) (bt := bt) (bb := bb) (da := da) (ag := ag) (lo := lo) (tp := tp) (sb := sb) (sd := (sd + 1)) (tk := tk) (fw := fw) (fv := fv) (hv := hv) (sts := sts) (ops := ops) (opn := opn) (rg := rg) (kf := kf) (kk := kk) (th := th) (ens := ens) (mv := mv) (mm := mm) (sps := sps) (ho := ho) (pb := pb) (pz := pz) (rc := rc) (mr := mr) (md := md) (mt := mt) (gp := gp) (qc := qc) (qq := qq) (qe := qe) (lc := lc) (tq := tq) (tl := tl) (tt := (nI (8 * Z))) (ma := ma) (ol := ol) (dr := da) (ay := ag) (gl := gl) (ta := ta) (lk := lk) (go := go) (ca := ca) (cv := cv) (cm := cm) (cg := cg) (ow := ow) (oq := oq) (ox := ox) (sw := sw) (sa := sa) (sz := sz) (sg := sg) (ra := ra) (ac := ac) (ea := ea) (eb := eb) (ch := ch) (ty := ty) (bi := bi) (mk := mk) (yb := yb) (le := le) (gt := gt) hE hF ht2
  have hrow : row < 52 := by
    rcases hr with ⟨_, h⟩ | ⟨e', h0, _, h⟩
    · omega
    · omega
  obtain ⟨⟨r0, r1, r2, r3, r4⟩, r5, ⟨a, ha, r6⟩⟩ := hE.2.2.1 row hrow
  obtain ⟨da', ag', fv', hv', rg', mt', k1, k2, k3⟩ := sd_actw (sc := (nI N)) (oc := oc) (bt := bt) (bb := bb) (da := da) (ag := ag) (lo := lo) (tp := tp) (sb := sb) (sd := (sd + 1)) (tk := tk) (fw := fw) (fv := fv) (hv := hv) (sts := sts) (ops := ops) (opn := opn) (rg := rg) (kf := kf) (kk := kk) (th := th) (ens := (upd ens (row * 5 + 4) (ch row + 1))) (mv := mv) (mm := mm) (sps := sps) (ho := ho) (pb := pb) (pz := pz) (rc := rc) (mr := mr) (md := md) (mt := mt) (gp := gp) (qc := qc) (qq := qq) (qe := qe) (lc := lc) (tq := tq) (tl := tl) (ma := ma) (ol := ol) (gl := gl) (ta := ta) (lk := lk) (go := go) (ca := ca) (cv := cv) (cm := cm) (cg := cg) (ow := ow) (oq := oq) (ox := ox) (sw := sw) (sa := sa) (sz := sz) (sg := sg) (ra := ra) (ac := ac) (ea := ea) (eb := eb) (ch := (upd ch row (ch row + 1))) (ty := ty) (bi := bi) (mk := mk) (yb := yb) (le := le) (gt := gt) (p := ea row) (q := eb row) hF hO hZ hz ha
  have m1 : nI (row * 5) + 1 = nI (row * 5 + 1) := nI_add _ 1
  have m2 : nI (row * 5) + 2 = nI (row * 5 + 2) := nI_add _ 2
  have m3 : nI (row * 5) + 3 = nI (row * 5 + 3) := nI_add _ 3
  have m4 : nI (row * 5) + 4 = nI (row * 5 + 4) := nI_add _ 4
  have q1 : upd ens (row * 5 + 4) (ch row + 1) (row * 5 + 1) = nI a := by rw [pk_un (by omega), r1, r6]
  have q2 : upd ens (row * 5 + 4) (ch row + 1) (row * 5 + 2) = ea row := by rw [pk_un (by omega), r2]
  have q3 : upd ens (row * 5 + 4) (ch row + 1) (row * 5 + 3) = eb row := by rw [pk_un (by omega), r3]
  have i260 : ∀ c, c < 5 → vp_in (nI (row * 5 + c)) 260 := fun c hc => vp_in_nI (by omega) (by decide)
  have i52 : vp_in (nI row) 52 := vp_in_nI hrow (by decide)
  have X : ∀ (post : SX → Prop) (m : Nat), wX_doSteps_265 post (wX_doSteps_14 post m) (nI i) (if xc = -1 then 1 else 0) (nI N) oc bt bb da' ag' lo tp sb (sd + 1) tk fw fv' hv' sts ops opn rg' kf kk th (upd ens (row * 5 + 4) (ch row + 1)) mv mm sps ho pb pz rc mr md mt' gp qc qq qe lc tq → wX_doSteps_14 post (m + 1) (nI i) (nI i) (nI N) oc bt bb da ag lo tp sb sd tk fw fv hv sts ops opn rg kf kk th ens mv mm sps ho pb pz rc mr md mt gp qc qq qe lc tq := by
    intro post m hp
    refine br_f cn (br_t ci (nm_e ⟨i1, nm_r (v1.trans ht) ⟨i2, nm_r v2 ⟨i0, nm_r (v0.trans hw) (br_f (by decide) (br_f (by decide) (br_t rfl (c2 _ (sx_row ht2 hr (nm_r (pk_mul row 5) ?_))))))⟩⟩⟩))
    rw [m1, m2, m3, m4, nI_clamp (n := row * 5 + 4) (by omega), nI_clamp (n := row * 5 + 1) (by omega), nI_clamp (n := row * 5 + 2) (by omega), nI_clamp (n := row * 5 + 3) (by omega), r4]
    refine ⟨i260 4 (by omega), i260 4 (by omega), nm_e ⟨i260 1 (by omega), i260 2 (by omega), i260 3 (by omega), ?_⟩⟩
    rw [q1, q2, q3]
    refine k2 _ (br_c (fun z => ?_) (fun z => ?_))
    · rw [if_pos z] at hp; exact hp
    · rw [if_neg z] at hp; exact hp
  have Y : ∀ post : Int32 → SY → Prop, (row % 13 = 12 → post (sg i) ((nI N), oc, tl, (nI (8 * Z)), bt, ma, ol, tp, sb, (sd + 1), tk, da', ag', gl, fw, fv', hv', ta, lk, go, ca, cv, cm, cg, opn, ow, oq, ox, rg', sw, sa, sz, sg, ho, kf, kk, ra, ac, ea, eb, (upd ch row (ch row + 1)), th, mv, mm, ty, bi, mk, rc, mr, md, mt', gp, yb, le, qc, qe, qq, tq, lc, gt)) → (¬ row % 13 = 12 → post (nI (i + 1)) ((nI N), oc, tl, (nI (8 * Z)), bt, ma, ol, tp, sb, (sd + 1), tk, da', ag', gl, fw, fv', hv', ta, lk, go, ca, cv, cm, cg, opn, ow, oq, ox, rg', sw, sa, sz, sg, ho, kf, kk, ra, ac, ea, eb, (upd ch row (ch row + 1)), th, mv, mm, ty, bi, mk, rc, mr, md, mt', gp, yb, le, qc, qe, qq, tq, lc, gt)) → wpY_go post ((nI N), oc, tl, (nI (8 * Z)), bt, ma, ol, tp, sb, sd, tk, da, ag, gl, fw, fv, hv, ta, lk, go, ca, cv, cm, cg, opn, ow, oq, ox, rg, sw, sa, sz, sg, ho, kf, kk, ra, ac, ea, eb, ch, th, mv, mm, ty, bi, mk, rc, mr, md, mt, gp, yb, le, qc, qe, qq, tq, lc, gt) (nI i) := by
    intro post h1 h0
    refine ⟨w0, nm_r (u1.trans ht) ⟨w0, nm_r u2 (nm_e ⟨w0, nm_r (u0.trans hw) (br_f (by decide) (br_f (by decide) (br_t rfl (c3 _ ?_))))⟩)⟩⟩
    have er : nI row - nI row / 13 * 13 = nI (row % 13) := pk_rem (d := 13) (by omega) (by decide) (by decide)
    rw [nI_clamp (n := row) (by omega), r6, er]
    refine ⟨i52, i52, nm_e ⟨i52, i52, i52, k3 _ ⟨by decide, pk_eq (row % 13) 12 (fun z => ⟨w0, ?_⟩) (fun z => ?_)⟩⟩⟩
    · rw [u3]; exact h1 z
    · rw [nI_1]; exact h0 z
  rcases hr with ⟨hc, hrw⟩ | ⟨e', he', hc, hrw⟩
  · refine ⟨g, sd + 1, da', ag', fv', hv', rg', mt', upd ens (row * 5 + 4) (ch row + 1), upd ch row (ch row + 1), by omega, hg2, k1, sd_Et hE hrow, fun post m hp => X post m ?_, fun post hp => Y post (fun _ => by rw [hg]; exact hp) (fun z => absurd z (by omega))⟩
    rw [if_pos hc]
    exact sx_jj (by omega) (g3.trans hg) hp
  · refine ⟨i + 1, sd + 1, da', ag', fv', hv', rg', mt', upd ens (row * 5 + 4) (ch row + 1), upd ch row (ch row + 1), by omega, by omega, k1, sd_Et hE hrow, fun post m hp => X post m ?_, fun post hp => Y post (fun z => absurd z (by omega)) (fun _ => hp)⟩
    rw [if_neg (by rw [hc]; exact sd_ne (by omega))]
    exact sx_nj hp
theorem sd_s {i N Z : Nat} (hF : sd_F fw fv hv) (hE : sd_E kf kk th ens mm ra ac ea eb ch) (hO : sd_O ops opn ow oq ox) (hA : ∀ i, i < 16 → sps (i * 4) = sw i ∧ sps (i * 4 + 1) = sa i ∧ sps (i * 4 + 2) = sz i ∧ sps (i * 4 + 3) = sg i) (hN : N ≤ 16) (hi : i < N) (hZ : Z ≤ 16) (hz : pz 49 = nI Z) (hs : sd_sp i (sw i) (sa i) (sz i) (sg i)) : ∃ (j : Nat) (sd' da' ag' : Int32) (fv' hv' rg' mt' ens' ch' : Nat → Int32), i + 1 ≤ j ∧ j ≤ 16 ∧ sd_F fw fv' hv' ∧ sd_E kf kk th ens' mm ra ac ea eb ch' ∧ (∀ (post : SX → Prop) (m : Nat), wX_doSteps_14 post m (nI j) (nI (i + 1)) (nI N) oc bt bb da' ag' lo tp sb sd' tk fw fv' hv' sts ops opn rg' kf kk th ens' mv mm sps ho pb pz rc mr md mt' gp qc qq qe lc tq → wX_doSteps_14 post (m + 1) (nI i) (nI i) (nI N) oc bt bb da ag lo tp sb sd tk fw fv hv sts ops opn rg kf kk th ens mv mm sps ho pb pz rc mr md mt gp qc qq qe lc tq) ∧ (∀ post : Int32 → SY → Prop, post (nI j) ((nI N), oc, tl, (nI (8 * Z)), bt, ma, ol, tp, sb, sd', tk, da', ag', gl, fw, fv', hv', ta, lk, go, ca, cv, cm, cg, opn, ow, oq, ox, rg', sw, sa, sz, sg, ho, kf, kk, ra, ac, ea, eb, ch', th, mv, mm, ty, bi, mk, rc, mr, md, mt', gp, yb, le, qc, qe, qq, tq, lc, gt) → wpY_go post ((nI N), oc, tl, (nI (8 * Z)), bt, ma, ol, tp, sb, sd, tk, da, ag, gl, fw, fv, hv, ta, lk, go, ca, cv, cm, cg, opn, ow, oq, ox, rg, sw, sa, sz, sg, ho, kf, kk, ra, ac, ea, eb, ch, th, mv, mm, ty, bi, mk, rc, mr, md, mt, gp, yb, le, qc, qe, qq, tq, lc, gt) (nI i)) := by
  obtain ⟨n, h1, hw, h2, h3, h4, h5, h6, h7⟩ := hs
  have : n = 0 ∨ n = 1 ∨ n = 2 ∨ n = 3 ∨ n = 4 ∨ n = 5 := by omega
  rcases this with rfl | rfl | rfl | rfl | rfl | rfl
  · obtain ⟨t, ht2, ht⟩ := h2 rfl
    obtain ⟨g, hg1, hg2, hg⟩ := h7 (by omega)
    exact sd_s0 hF hE hO hA hN hi hZ hz hw hg hg1 hg2 ht ht2
  · obtain ⟨a, ha2, ha⟩ := h3 rfl
    exact sd_s1 hF hE hO hA hN hi hZ hz hw ha ha2
  · obtain ⟨a, ha2, ha⟩ := h4 (by omega)
    obtain ⟨g, hg1, hg2, hg⟩ := h7 (by omega)
    exact sd_s2 hF hE hO hA hN hi hZ hz hw hg hg1 hg2 ha ha2
  · obtain ⟨a, ha2, ha⟩ := h5 rfl
    obtain ⟨g, hg1, hg2, hg⟩ := h7 (by omega)
    exact sd_s3 hF hE hO hA hN hi hZ hz hw hg hg1 hg2 ha ha2
  · obtain ⟨a, ha2, ha⟩ := h4 (by omega)
    obtain ⟨b, hb2, hb⟩ := h6 rfl
    obtain ⟨g, hg1, hg2, hg⟩ := h7 (by omega)
    exact sd_s4 hF hE hO hA hN hi hZ hz hw hg hg1 hg2 ha ha2 hb hb2
  · obtain ⟨g, hg1, hg2, hg⟩ := h7 (by omega)
    exact sd_s5 hF hE hO hA hN hi hZ hz hw hg hg1 hg2
/-- all steps, both sides at once -/
theorem sd_steps {N Z : Nat} (hO : sd_O ops opn ow oq ox) (hA : ∀ i, i < 16 → sps (i * 4) = sw i ∧ sps (i * 4 + 1) = sa i ∧ sps (i * 4 + 2) = sz i ∧ sps (i * 4 + 3) = sg i) (hB : ∀ i, i < N → sd_sp i (sw i) (sa i) (sz i) (sg i)) (hN : N ≤ 16) (hZ : Z ≤ 16) (hz : pz 49 = nI Z) :
    ∀ (d i j : Nat) (sd da ag : Int32) (fv hv rg mt ens ch : Nat → Int32), i + d = N → i ≤ j → j ≤ 16 → sd_F fw fv hv → sd_E kf kk th ens mm ra ac ea eb ch →
    ∃ (sd' da' ag' : Int32) (fv' hv' rg' mt' ens' ch' : Nat → Int32), sd_F fw fv' hv' ∧ sd_E kf kk th ens' mm ra ac ea eb ch' ∧
    (∀ post : SX → Prop, post ((nI N), oc, bt, bb, da', ag', lo, tp, sb, sd', tk, fw, fv', hv', sts, ops, opn, rg', kf, kk, th, ens', mv, mm, sps, ho, pb, pz, rc, mr, md, mt', gp, qc, qq, qe, lc, tq) → wX_doSteps_14 post (d + 1) (nI j) (nI i) (nI N) oc bt bb da ag lo tp sb sd tk fw fv hv sts ops opn rg kf kk th ens mv mm sps ho pb pz rc mr md mt gp qc qq qe lc tq) ∧
    (∀ (post : Int32 → SY → Prop) (m : Nat), d < m → (∀ m' j' : Nat, N ≤ j' → j' ≤ 16 → wY_pass_23 post (m' + 1) (nI j') (nI N) oc tl (nI (8 * Z)) bt ma ol tp sb sd' tk da' ag' gl fw fv' hv' ta lk go ca cv cm cg opn ow oq ox rg' sw sa sz sg ho kf kk ra ac ea eb ch' th mv mm ty bi mk rc mr md mt' gp yb le qc qe qq tq lc gt) → wY_pass_23 post m (nI j) (nI N) oc tl (nI (8 * Z)) bt ma ol tp sb sd tk da ag gl fw fv hv ta lk go ca cv cm cg opn ow oq ox rg sw sa sz sg ho kf kk ra ac ea eb ch th mv mm ty bi mk rc mr md mt gp yb le qc qe qq tq lc gt) := by
  intro d
  induction d with
  | zero =>
    intro i j sd da ag fv hv rg mt ens ch hi hij hj hF hE
    refine ⟨sd, da, ag, fv, hv, rg, mt, ens, ch, hF, hE, fun post hp => br_t (nI_le (by omega) (by omega)) hp, fun post m hm hp => ?_⟩
    obtain ⟨m', rfl⟩ : ∃ m', m = m' + 1 := ⟨m - 1, by omega⟩
    exact hp m' j (by omega) hj
  | succ d ih =>
    intro i j sd da ag fv hv rg mt ens ch hi hij hj hF hE
    by_cases e : i = j
    · subst e
      obtain ⟨j1, sd1, da1, ag1, fv1, hv1, rg1, mt1, ens1, ch1, k1, k2, k3, k4, k5, k6⟩ := sd_s (oc := oc) (bt := bt) (bb := bb) (da := da) (ag := ag) (lo := lo) (tp := tp) (sb := sb) (sd := sd) (tk := tk) (fw := fw) (fv := fv) (hv := hv) (sts := sts) (ops := ops) (opn := opn) (rg := rg) (kf := kf) (kk := kk) (th := th) (ens := ens) (mv := mv) (mm := mm) (sps := sps) (ho := ho) (pb := pb) (pz := pz) (rc := rc) (mr := mr) (md := md) (mt := mt) (gp := gp) (qc := qc) (qq := qq) (qe := qe) (lc := lc) (tq := tq) (tl := tl) (ma := ma) (ol := ol) (gl := gl) (ta := ta) (lk := lk) (go := go) (ca := ca) (cv := cv) (cm := cm) (cg := cg) (ow := ow) (oq := oq) (ox := ox) (sw := sw) (sa := sa) (sz := sz) (sg := sg) (ra := ra) (ac := ac) (ea := ea) (eb := eb) (ch := ch) (ty := ty) (bi := bi) (mk := mk) (yb := yb) (le := le) (gt := gt) hF hE hO hA hN (show i < N by omega) hZ hz (hB i (by omega))
      obtain ⟨sd', da', ag', fv', hv', rg', mt', ens', ch', l1, l2, l3, l4⟩ := ih (i + 1) j1 sd1 da1 ag1 fv1 hv1 rg1 mt1 ens1 ch1 (by omega) k1 k2 k3 k4
      refine ⟨sd', da', ag', fv', hv', rg', mt', ens', ch', l1, l2, fun post hp => k5 post (d + 1) (l3 post hp), fun post m hm hp => ?_⟩
      obtain ⟨m', rfl⟩ : ∃ m', m = m' + 1 := ⟨m - 1, by omega⟩
      exact br_f (nI_ge (by omega) (by omega)) (k6 _ (l4 post m' (by omega) hp))
    · obtain ⟨sd', da', ag', fv', hv', rg', mt', ens', ch', l1, l2, l3, l4⟩ := ih (i + 1) j sd da ag fv hv rg mt ens ch (by omega) (by omega) hj hF hE
      refine ⟨sd', da', ag', fv', hv', rg', mt', ens', ch', l1, l2, fun post hp => br_f (nI_ge (by omega) (by omega)) (br_f (nI_ge (by omega) (by omega)) (nm_r (nI_1 i) (l3 post hp))), fun post m hm hp => l4 post m (by omega) hp⟩
end
