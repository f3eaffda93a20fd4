section
variable {sc oc bt bb da ag lo tp sb sd tk : Int32} {fw fv hv sts ops opn rg kf kk th ens mv mm sps ho pb pz rc mr md mt gp qc qq qe lc tq : Nat → Int32} {tl tt ma ol dr ay gl : Int32} {ta lk go ca cv cm cg ow oq ox sw sa sz sg ra ac ea eb ch ty bi mk yb le gt : Nat → Int32}
theorem i_vc_field {k : Nat} {u : SX} {v : SY} (I : i_Rel k u v) (hk : k + 7 ≤ 3584) (v1 : Int32) : wpX_field (fun r => wpY_field (fun r' => r' = r ∧ i_Rel (k + 7) u v) v v1) u v1 := by
  refine sd_el (C := fun u v => wpX_field (fun r => wpY_field (fun r' => r' = r ∧ i_Rel (k + 7) u v) v v1) u v1) I (fun sc oc bt bb da ag lo tp sb sd tk tl tt ma ol dr ay gl fw fv hv sts ops opn rg kf kk th ens mv mm sps ho pb pz rc mr md mt gp qc qq qe lc tq ta lk go ca cv cm cg ow oq ox sw sa sz sg ra ac ea eb ch ty bi mk yb le gt hF hS hO hE hP hH hT hU hG hW hQ => ?_)
  have J : i_Rel (k + 7) (sc, oc, bt, bb, da, ag, lo, tp, sb, sd, tk, fw, fv, hv, sts, ops, opn, rg, kf, kk, th, ens, mv, mm, sps, ho, pb, pz, rc, mr, md, mt, gp, qc, qq, qe, lc, tq) (sc, oc, tl, tt, bt, ma, ol, tp, sb, sd, tk, dr, ay, gl, fw, fv, hv, ta, lk, go, ca, cv, cm, cg, opn, ow, oq, ox, rg, sw, sa, sz, sg, ho, kf, kk, ra, ac, ea, eb, ch, th, mv, mm, ty, bi, mk, rc, mr, md, mt, gp, yb, le, qc, qe, qq, tq, lc, gt) := sd_mk hF hS hO hE hP hH hT hU hG hW hQ
  unfold wpX_field wpY_field
  rcases sd_cl 28 v1 with h | h
  · exact sx_field0 h (sd_w0 (sy_field0 h (sd_w0 ⟨rfl, J⟩)))
  · refine sx_field1 h (sd_w1 ?_)
    obtain ⟨j, hj, rfl⟩ := id h
    exact ⟨pk_in j 28 hj, sy_field1 h (sd_w1 ⟨pk_in j 28 hj, rfl, J⟩)⟩
theorem i_vc_count {k : Nat} {u : SX} {v : SY} (I : i_Rel k u v) (hk : k + 7 ≤ 3584) (v1 : Int32) : wpX_count (fun r => wpY_count (fun r' => r' = r ∧ i_Rel (k + 7) u v) v v1) u v1 := by
  refine sd_el (C := fun u v => wpX_count (fun r => wpY_count (fun r' => r' = r ∧ i_Rel (k + 7) u v) v v1) u v1) I (fun sc oc bt bb da ag lo tp sb sd tk tl tt ma ol dr ay gl fw fv hv sts ops opn rg kf kk th ens mv mm sps ho pb pz rc mr md mt gp qc qq qe lc tq ta lk go ca cv cm cg ow oq ox sw sa sz sg ra ac ea eb ch ty bi mk yb le gt hF hS hO hE hP hH hT hU hG hW hQ => ?_)
  have J : i_Rel (k + 7) (sc, oc, bt, bb, da, ag, lo, tp, sb, sd, tk, fw, fv, hv, sts, ops, opn, rg, kf, kk, th, ens, mv, mm, sps, ho, pb, pz, rc, mr, md, mt, gp, qc, qq, qe, lc, tq) (sc, oc, tl, tt, bt, ma, ol, tp, sb, sd, tk, dr, ay, gl, fw, fv, hv, ta, lk, go, ca, cv, cm, cg, opn, ow, oq, ox, rg, sw, sa, sz, sg, ho, kf, kk, ra, ac, ea, eb, ch, th, mv, mm, ty, bi, mk, rc, mr, md, mt, gp, yb, le, qc, qe, qq, tq, lc, gt) := sd_mk hF hS hO hE hP hH hT hU hG hW hQ
  unfold wpX_count wpY_count
  rcases sd_cl 3 v1 with h | h
  · exact sx_BR 2 h (sy_in0 2 h (sd_w0 ⟨rfl, J⟩))
  · refine sx_BT 2 h ?_
    obtain ⟨j, hj, rfl⟩ := id h
    exact ⟨pk_in j 3 hj, sy_in1 2 h (sd_w1 ⟨pk_in j 3 hj, rfl, J⟩)⟩
theorem i_vc_tokens {k : Nat} {u : SX} {v : SY} (I : i_Rel k u v) (hk : k + 7 ≤ 3584) (v1 : Int32) : wpX_tokens (fun r => wpY_tokens (fun r' => r' = r ∧ i_Rel (k + 7) u v) v v1) u v1 := by
  refine sd_el (C := fun u v => wpX_tokens (fun r => wpY_tokens (fun r' => r' = r ∧ i_Rel (k + 7) u v) v v1) u v1) I (fun sc oc bt bb da ag lo tp sb sd tk tl tt ma ol dr ay gl fw fv hv sts ops opn rg kf kk th ens mv mm sps ho pb pz rc mr md mt gp qc qq qe lc tq ta lk go ca cv cm cg ow oq ox sw sa sz sg ra ac ea eb ch ty bi mk yb le gt hF hS hO hE hP hH hT hU hG hW hQ => ?_)
  have J : i_Rel (k + 7) (sc, oc, bt, bb, da, ag, lo, tp, sb, sd, tk, fw, fv, hv, sts, ops, opn, rg, kf, kk, th, ens, mv, mm, sps, ho, pb, pz, rc, mr, md, mt, gp, qc, qq, qe, lc, tq) (sc, oc, tl, tt, bt, ma, ol, tp, sb, sd, tk, dr, ay, gl, fw, fv, hv, ta, lk, go, ca, cv, cm, cg, opn, ow, oq, ox, rg, sw, sa, sz, sg, ho, kf, kk, ra, ac, ea, eb, ch, th, mv, mm, ty, bi, mk, rc, mr, md, mt, gp, yb, le, qc, qe, qq, tq, lc, gt) := sd_mk hF hS hO hE hP hH hT hU hG hW hQ
  unfold wpX_tokens wpY_tokens
  rcases sd_cl 4 v1 with h | h
  · exact sx_meter0 h (sd_w0 (sy_in0 3 h (sd_w0 ⟨rfl, J⟩)))
  · refine sx_meter1 h (sd_w1 ?_)
    obtain ⟨j, hj, rfl⟩ := id h
    exact ⟨pk_in j 4 hj, sy_in1 3 h (sd_w1 ⟨pk_in j 4 hj, rfl, J⟩)⟩
theorem sd_l69 {p0 : Int32} (a : p0 < 6 ∨ 8 < p0) : ¬ p0 = 6 ∧ ¬ p0 = 7 ∧ ¬ p0 = 8 := by
  refine ⟨?_, ?_, ?_⟩ <;> (rintro rfl; revert a; decide)
theorem sx_last0 {post : Int32 → Prop} {p0 : Int32} (h : sd_rj 6 p0) (h6 : p0 = 6 → post tp) (h7 : p0 = 7 → post sb) (h8 : p0 = 8 → post sd) (h9 : ¬ p0 = 6 → ¬ p0 = 7 → ¬ p0 = 8 → post (-1)) : wpX_last post (sc, oc, bt, bb, da, ag, lo, tp, sb, sd, tk, fw, fv, hv, sts, ops, opn, rg, kf, kk, th, ens, mv, mm, sps, ho, pb, pz, rc, mr, md, mt, gp, qc, qq, qe, lc, tq) p0 := by
  unfold wpX_last
  refine sx_header0 h (sd_w0 ?_)
  refine br_c (fun a => ?_) (fun _ => br_c (fun a => ?_) (fun _ => br_c h6 (fun _ => br_c h7 (fun _ => br_c h8 (fun _ => trivial)))))
  · have z := sd_l69 (Or.inl a)
    exact h9 z.1 z.2.1 z.2.2
  · have z := sd_l69 (Or.inr a)
    exact h9 z.1 z.2.1 z.2.2
theorem sy_last0 {post : Int32 → Prop} {p0 : Int32} (h : sd_rj 6 p0) (h6 : p0 = 6 → post tp) (h7 : p0 = 7 → post sb) (h8 : p0 = 8 → post sd) (h9 : ¬ p0 = 6 → ¬ p0 = 7 → ¬ p0 = 8 → post (-1)) : wpY_last post (sc, oc, tl, tt, bt, ma, ol, tp, sb, sd, tk, dr, ay, gl, fw, fv, hv, ta, lk, go, ca, cv, cm, cg, opn, ow, oq, ox, rg, sw, sa, sz, sg, ho, kf, kk, ra, ac, ea, eb, ch, th, mv, mm, ty, bi, mk, rc, mr, md, mt, gp, yb, le, qc, qe, qq, tq, lc, gt) p0 := by
  unfold wpY_last
  refine sy_in0 5 h (sd_w0 ?_)
  exact br_c h6 (fun a => br_c h7 (fun b => br_c h8 (fun c => h9 a b c)))
theorem i_vc_last {k : Nat} {u : SX} {v : SY} (I : i_Rel k u v) (hk : k + 7 ≤ 3584) (v1 : Int32) : wpX_last (fun r => wpY_last (fun r' => r' = r ∧ i_Rel (k + 7) u v) v v1) u v1 := by
  refine sd_el (C := fun u v => wpX_last (fun r => wpY_last (fun r' => r' = r ∧ i_Rel (k + 7) u v) v v1) u v1) I (fun sc oc bt bb da ag lo tp sb sd tk tl tt ma ol dr ay gl fw fv hv sts ops opn rg kf kk th ens mv mm sps ho pb pz rc mr md mt gp qc qq qe lc tq ta lk go ca cv cm cg ow oq ox sw sa sz sg ra ac ea eb ch ty bi mk yb le gt hF hS hO hE hP hH hT hU hG hW hQ => ?_)
  have J : i_Rel (k + 7) (sc, oc, bt, bb, da, ag, lo, tp, sb, sd, tk, fw, fv, hv, sts, ops, opn, rg, kf, kk, th, ens, mv, mm, sps, ho, pb, pz, rc, mr, md, mt, gp, qc, qq, qe, lc, tq) (sc, oc, tl, tt, bt, ma, ol, tp, sb, sd, tk, dr, ay, gl, fw, fv, hv, ta, lk, go, ca, cv, cm, cg, opn, ow, oq, ox, rg, sw, sa, sz, sg, ho, kf, kk, ra, ac, ea, eb, ch, th, mv, mm, ty, bi, mk, rc, mr, md, mt, gp, yb, le, qc, qe, qq, tq, lc, gt) := sd_mk hF hS hO hE hP hH hT hU hG hW hQ
  rcases sd_cl 6 v1 with h | h
  · exact sx_last0 h (fun e => sy_last0 h (fun _ => ⟨rfl, J⟩) (fun z => absurd (e.symm.trans z) (by decide)) (fun z => absurd (e.symm.trans z) (by decide)) (fun z => absurd e z))
      (fun e => sy_last0 h (fun z => absurd (e.symm.trans z) (by decide)) (fun _ => ⟨rfl, J⟩) (fun z => absurd (e.symm.trans z) (by decide)) (fun _ z => absurd e z))
      (fun e => sy_last0 h (fun z => absurd (e.symm.trans z) (by decide)) (fun z => absurd (e.symm.trans z) (by decide)) (fun _ => ⟨rfl, J⟩) (fun _ _ z => absurd e z))
      (fun a b c => sy_last0 h (fun z => absurd z a) (fun z => absurd z b) (fun z => absurd z c) (fun _ _ _ => ⟨rfl, J⟩))
  · unfold wpX_last wpY_last
    refine sx_header1 h (sd_w1 ?_)
    obtain ⟨j, hj, rfl⟩ := id h
    refine ⟨pk_in j 6 hj, br_c (fun e => sy_in1 5 h (sd_w1 ⟨pk_in j 6 hj, br_t e ⟨rfl, J⟩⟩)) (fun e => sy_in1 5 h (sd_w1 ⟨pk_in j 6 hj, br_f e ⟨rfl, J⟩⟩))⟩
theorem i_vc_port {k : Nat} {u : SX} {v : SY} (I : i_Rel k u v) (hk : k + 7 ≤ 3584) (v1 : Int32) (v2 : Int32) : wpX_port (fun r => wpY_port (fun r' => r' = r ∧ i_Rel (k + 7) u v) v v1 v2) u v1 v2 := by
  refine sd_el (C := fun u v => wpX_port (fun r => wpY_port (fun r' => r' = r ∧ i_Rel (k + 7) u v) v v1 v2) u v1 v2) I (fun sc oc bt bb da ag lo tp sb sd tk tl tt ma ol dr ay gl fw fv hv sts ops opn rg kf kk th ens mv mm sps ho pb pz rc mr md mt gp qc qq qe lc tq ta lk go ca cv cm cg ow oq ox sw sa sz sg ra ac ea eb ch ty bi mk yb le gt hF hS hO hE hP hH hT hU hG hW hQ => ?_)
  have J : i_Rel (k + 7) (sc, oc, bt, bb, da, ag, lo, tp, sb, sd, tk, fw, fv, hv, sts, ops, opn, rg, kf, kk, th, ens, mv, mm, sps, ho, pb, pz, rc, mr, md, mt, gp, qc, qq, qe, lc, tq) (sc, oc, tl, tt, bt, ma, ol, tp, sb, sd, tk, dr, ay, gl, fw, fv, hv, ta, lk, go, ca, cv, cm, cg, opn, ow, oq, ox, rg, sw, sa, sz, sg, ho, kf, kk, ra, ac, ea, eb, ch, th, mv, mm, ty, bi, mk, rc, mr, md, mt, gp, yb, le, qc, qe, qq, tq, lc, gt) := sd_mk hF hS hO hE hP hH hT hU hG hW hQ
  unfold wpX_port wpY_port
  rcases sd_cl 4 v1 with h | h
  · exact sx_port0 h (sd_w0 (sy_in0 3 h (sd_w0 ⟨rfl, J⟩)))
  · refine sx_port1 h (sd_w1 ?_)
    rcases sd_cl 8 v2 with g | g
    · exact sx_CR 7 g (sy_in1 3 h (sd_w1 (sy_in0 7 g (sd_w0 ⟨rfl, J⟩))))
    · refine sx_CT 7 g ?_
      obtain ⟨p, hp, rfl⟩ := id h
      obtain ⟨w, hw, rfl⟩ := id g
      have e3 : nI p * 3 = nI (p * 3) := pk_mul p 3
      have e3' : 3 * nI p = nI (p * 3) := (pk_mul 3 p).trans (by rw [Nat.mul_comm])
      rw [e3, e3', nI_add]
      refine pk_le 3 w (fun a => pk_le 6 w (fun b => pk_eq w 6 (fun c => ?_) (fun c => ?_)) (fun b => ?_)) (fun a => ?_)
      · exact ⟨pk_in p 4 hp, sy_in1 3 h (sd_w1 (sy_in1 7 g (sd_w1 (br_t (nI_le a (by omega)) (br_t (nI_le b (by omega)) (br_t ((nI_eq (a := w) (b := 6) (by omega) (by omega)).mpr c) ⟨pk_in p 4 hp, rfl, J⟩))))))⟩
      · exact ⟨pk_in p 4 hp, sy_in1 3 h (sd_w1 (sy_in1 7 g (sd_w1 (br_t (nI_le a (by omega)) (br_t (nI_le b (by omega)) (br_f (fun z => c ((nI_eq (a := w) (b := 6) (by omega) (by omega)).mp z)) ⟨pk_in p 4 hp, rfl, J⟩))))))⟩
      · have e : nI (p * 3 + w) - 3 = nI (p * 3 + w - 3) := pk_sub (b := 3) (by omega)
        rw [e]
        exact ⟨pk_in (p * 3 + w - 3) 12 (by omega), sy_in1 3 h (sd_w1 (sy_in1 7 g (sd_w1 (br_t (nI_le a (by omega)) (br_f (nI_ge (b := 6) b (by omega)) ⟨pk_in (p * 3 + w - 3) 12 (by omega), rfl, J⟩)))))⟩
      · exact ⟨pk_in (p * 3 + w) 12 (by omega), sy_in1 3 h (sd_w1 (sy_in1 7 g (sd_w1 (br_f (nI_ge (b := 3) a (by omega)) ⟨pk_in (p * 3 + w) 12 (by omega), rfl, J⟩))))⟩
theorem sx_ent0 {post : Int32 → Prop} {p0 p1 : Int32} (h : sd_rj 4 p0 ∨ sd_rj 12 p1) (k : post 0) : wpX_isEntry post (sc, oc, bt, bb, da, ag, lo, tp, sb, sd, tk, fw, fv, hv, sts, ops, opn, rg, kf, kk, th, ens, mv, mm, sps, ho, pb, pz, rc, mr, md, mt, gp, qc, qq, qe, lc, tq) p0 p1 := by
  rcases sd_cl 4 p0 with g | g
  · exact sx_AR 4 g k
  · rcases h with h | h
    · exfalso
      obtain ⟨j, hj, rfl⟩ := g
      rcases h with h | h
      · exact nI_pos (by omega) h
      · exact nI_ge hj (by decide) h
    · exact sx_AT 4 g (sx_AR 12 h k)
theorem sy_ent0 {post : Int32 → Prop} {p0 p1 : Int32} (h : sd_rj 4 p0 ∨ sd_rj 12 p1) (k : post 0) : wpY_isEntry post (sc, oc, tl, tt, bt, ma, ol, tp, sb, sd, tk, dr, ay, gl, fw, fv, hv, ta, lk, go, ca, cv, cm, cg, opn, ow, oq, ox, rg, sw, sa, sz, sg, ho, kf, kk, ra, ac, ea, eb, ch, th, mv, mm, ty, bi, mk, rc, mr, md, mt, gp, yb, le, qc, qe, qq, tq, lc, gt) p0 p1 := by
  unfold wpY_isEntry
  rcases sd_cl 4 p0 with g | g
  · exact sy_in0 3 g (sd_w0 k)
  · rcases h with h | h
    · exfalso
      obtain ⟨j, hj, rfl⟩ := g
      rcases h with h | h
      · exact nI_pos (by omega) h
      · exact nI_ge hj (by decide) h
    · exact sy_in1 3 g (sd_w1 (sy_in0 11 h (sd_w0 k)))
theorem sd_13 (t e : Nat) : 13 * nI t + nI e = nI (13 * t + e) := sd_am t 13 e
theorem sd_13' (t e : Nat) : nI t * 13 + nI e = nI (13 * t + e) := (sd_ma t 13 e).trans (by rw [Nat.mul_comm])
theorem sx_ent1 {post : Int32 → Prop} {t e : Nat} (ht : t < 4) (he : e < 12) (k0 : th (13 * t + e) = 0 → post 0) (k1 : ¬ th (13 * t + e) = 0 → post 1) : wpX_isEntry post (sc, oc, bt, bb, da, ag, lo, tp, sb, sd, tk, fw, fv, hv, sts, ops, opn, rg, kf, kk, th, ens, mv, mm, sps, ho, pb, pz, rc, mr, md, mt, gp, qc, qq, qe, lc, tq) (nI t) (nI e) := by
  refine sx_AT 4 ⟨t, ht, rfl⟩ (sx_AT 12 ⟨e, he, rfl⟩ ?_)
  rw [sd_13', nI_clamp (by omega)]
  exact ⟨pk_in (13 * t + e) 52 (by omega), br_c k0 k1⟩
theorem sy_ent1 {post : Int32 → Prop} {t e : Nat} (ht : t < 4) (he : e < 12) (k0 : th (13 * t + e) = 0 → post 0) (k1 : ¬ th (13 * t + e) = 0 → post 1) : wpY_isEntry post (sc, oc, tl, tt, bt, ma, ol, tp, sb, sd, tk, dr, ay, gl, fw, fv, hv, ta, lk, go, ca, cv, cm, cg, opn, ow, oq, ox, rg, sw, sa, sz, sg, ho, kf, kk, ra, ac, ea, eb, ch, th, mv, mm, ty, bi, mk, rc, mr, md, mt, gp, yb, le, qc, qe, qq, tq, lc, gt) (nI t) (nI e) := by
  unfold wpY_isEntry
  refine sy_in1 3 ⟨t, ht, rfl⟩ (sd_w1 (sy_in1 11 ⟨e, he, rfl⟩ (sd_w1 ?_)))
  rw [sd_13, nI_clamp (by omega)]
  exact ⟨pk_in (13 * t + e) 52 (by omega), br_c k0 k1⟩
theorem sd_clE (p0 p1 : Int32) : (sd_rj 4 p0 ∨ sd_rj 12 p1) ∨ (∃ t e : Nat, t < 4 ∧ e < 12 ∧ p0 = nI t ∧ p1 = nI e) := by
  rcases sd_cl 4 p0 with h | ⟨t, ht, h⟩
  · exact Or.inl (Or.inl h)
  · rcases sd_cl 12 p1 with g | ⟨e, he, g⟩
    · exact Or.inl (Or.inr g)
    · exact Or.inr ⟨t, e, ht, he, h, g⟩
theorem sd_row5 (x c : Nat) : nI x * 5 + nI c = nI (x * 5 + c) := sd_ma x 5 c
-- taken: the default's row
theorem sx_taken1 {post : Int32 → Prop} {t : Nat} (ht : t < 4) (k : post (ens ((13 * t + 12) * 5 + 4))) : wpX_taken post (sc, oc, bt, bb, da, ag, lo, tp, sb, sd, tk, fw, fv, hv, sts, ops, opn, rg, kf, kk, th, ens, mv, mm, sps, ho, pb, pz, rc, mr, md, mt, gp, qc, qq, qe, lc, tq) (nI t) (-1) := by
  refine sx_AT 4 ⟨t, ht, rfl⟩ (br_t rfl (br_f sd_10 (br_t rfl ?_)))
  have e : nI t * 13 + 12 = nI (13 * t + 12) := sd_13' t 12
  have e2 : nI (13 * t + 12) * 5 + 4 = nI ((13 * t + 12) * 5 + 4) := sd_row5 _ 4
  rw [e]
  dsimp only
  rw [e2, nI_clamp (by omega)]
  exact ⟨vp_in_nI (by omega) (by decide), k⟩
theorem sx_taken2 {post : Int32 → Prop} {t e : Nat} (ht : t < 4) (he : e < 12) (k0 : th (13 * t + e) = 0 → post (-1)) (k1 : ¬ th (13 * t + e) = 0 → post (ens ((13 * t + e) * 5 + 4))) : wpX_taken post (sc, oc, bt, bb, da, ag, lo, tp, sb, sd, tk, fw, fv, hv, sts, ops, opn, rg, kf, kk, th, ens, mv, mm, sps, ho, pb, pz, rc, mr, md, mt, gp, qc, qq, qe, lc, tq) (nI t) (nI e) := by
  refine sx_AT 4 ⟨t, ht, rfl⟩ (br_f (sd_ne (by omega)) (br_t rfl (sx_ent1 ht he (fun z => sd_w0 (k0 z)) (fun z => sd_w1 (br_f (sd_ne (by omega)) ?_)))))
  have e2 : nI (13 * t + e) * 5 + 4 = nI ((13 * t + e) * 5 + 4) := sd_row5 _ 4
  rw [sd_13']
  dsimp only
  rw [e2, nI_clamp (by omega)]
  exact ⟨vp_in_nI (by omega) (by decide), k1 z⟩
theorem sx_taken0 {post : Int32 → Prop} {p0 p1 : Int32} (h : sd_rj 4 p0 ∨ (¬ p1 = -1 ∧ sd_rj 12 p1)) (k : post (-1)) : wpX_taken post (sc, oc, bt, bb, da, ag, lo, tp, sb, sd, tk, fw, fv, hv, sts, ops, opn, rg, kf, kk, th, ens, mv, mm, sps, ho, pb, pz, rc, mr, md, mt, gp, qc, qq, qe, lc, tq) p0 p1 := by
  rcases sd_cl 4 p0 with g | g
  · exact sx_AR 4 g (br_t rfl (sx_ent0 (Or.inl g) (sd_w0 k)))
  · rcases h with h | h
    · exfalso
      obtain ⟨j, hj, rfl⟩ := g
      rcases h with h | h
      · exact nI_pos (by omega) h
      · exact nI_ge hj (by decide) h
    · exact sx_AT 4 g (br_f h.1 (br_t rfl (sx_ent0 (Or.inr h.2) (sd_w0 k))))
theorem i_vc_taken {k : Nat} {u : SX} {v : SY} (I : i_Rel k u v) (hk : k + 7 ≤ 3584) (v1 : Int32) (v2 : Int32) : wpX_taken (fun r => wpY_taken (fun r' => r' = r ∧ i_Rel (k + 7) u v) v v1 v2) u v1 v2 := by
  refine sd_el (C := fun u v => wpX_taken (fun r => wpY_taken (fun r' => r' = r ∧ i_Rel (k + 7) u v) v v1 v2) u v1 v2) I (fun sc oc bt bb da ag lo tp sb sd tk tl tt ma ol dr ay gl fw fv hv sts ops opn rg kf kk th ens mv mm sps ho pb pz rc mr md mt gp qc qq qe lc tq ta lk go ca cv cm cg ow oq ox sw sa sz sg ra ac ea eb ch ty bi mk yb le gt hF hS hO hE hP hH hT hU hG hW hQ => ?_)
  have J : i_Rel (k + 7) (sc, oc, bt, bb, da, ag, lo, tp, sb, sd, tk, fw, fv, hv, sts, ops, opn, rg, kf, kk, th, ens, mv, mm, sps, ho, pb, pz, rc, mr, md, mt, gp, qc, qq, qe, lc, tq) (sc, oc, tl, tt, bt, ma, ol, tp, sb, sd, tk, dr, ay, gl, fw, fv, hv, ta, lk, go, ca, cv, cm, cg, opn, ow, oq, ox, rg, sw, sa, sz, sg, ho, kf, kk, ra, ac, ea, eb, ch, th, mv, mm, ty, bi, mk, rc, mr, md, mt, gp, yb, le, qc, qe, qq, tq, lc, gt) := sd_mk hF hS hO hE hP hH hT hU hG hW hQ
  rcases sd_cl 4 v1 with h | h
  · refine sx_taken0 (Or.inl h) ?_
    unfold wpY_taken
    exact sy_in0 3 h (sd_w0 (sy_ent0 (Or.inl h) (sd_w0 ⟨rfl, J⟩)))
  · obtain ⟨t, ht, rfl⟩ := id h
    by_cases m : v2 = -1
    · subst m
      refine sx_taken1 ht ?_
      unfold wpY_taken
      refine sy_in1 3 h (sd_w1 (br_t rfl ?_))
      have e : 13 * nI t + 12 = nI (13 * t + 12) := sd_13 t 12
      rw [e, nI_clamp (by omega)]
      exact ⟨vp_in_nI (by omega) (by decide), ((hE.2.2.1 (13 * t + 12) (by omega)).1.2.2.2.2).symm, J⟩
    · rcases sd_cl 12 v2 with g | ⟨e, he, rfl⟩
      · refine sx_taken0 (Or.inr ⟨m, g⟩) ?_
        unfold wpY_taken
        exact sy_in1 3 h (sd_w1 (br_f m (sy_ent0 (Or.inr g) (sd_w0 ⟨rfl, J⟩))))
      · refine sx_taken2 ht he (fun z => ?_) (fun z => ?_)
        · unfold wpY_taken
          exact sy_in1 3 h (sd_w1 (br_f m (sy_ent1 ht he (fun _ => sd_w0 ⟨rfl, J⟩) (fun y => absurd z y))))
        · unfold wpY_taken
          refine sy_in1 3 h (sd_w1 (br_f m (sy_ent1 ht he (fun y => absurd y z) (fun _ => sd_w1 ?_))))
          rw [sd_13, nI_clamp (by omega)]
          exact ⟨vp_in_nI (by omega) (by decide), ((hE.2.2.1 (13 * t + e) (by omega)).1.2.2.2.2).symm, J⟩
theorem pk_sub_toInt {a b : Nat} (ha : a < 2 ^ 30) (hb : b < 2 ^ 30) : (nI a - nI b).toInt = (a : Int) - b := by
  rw [Int32.toInt_sub, nI_toInt (by omega), nI_toInt (by omega)]
  exact Int.bmod_eq_of_le (by omega) (by omega)
theorem sd_gl {G j : Nat} (hG : G < 2 ^ 30) (hj : j < 2 ^ 31) : nI G - 1 < nI j ↔ G ≤ j := by
  have e := pk_sub_toInt (a := G) (b := 1) hG (by decide)
  have e2 : (nI G - 1).toInt = (G : Int) - ((1 : Nat) : Int) := e
  rw [sd_ltI, e2, nI_toInt hj]
  omega
theorem sy_inG {post : Int32 → Prop} {p : Int32} {G : Nat} (hG : G ≤ 16) (h0 : sd_rj G p → post 0) (h1 : ∀ j, j < G → p = nI j → post 1) : wpY_in post p 0 (nI G - 1) := by
  by_cases n : p < 0
  · exact br_t n (h0 (Or.inl n))
  · obtain ⟨j, hj, rfl⟩ := nI_of n
    refine br_f n (br_c (fun z => h0 (Or.inr ?_)) (fun z => h1 j ?_ rfl))
    · rw [sd_gl (by omega) hj] at z
      exact nI_le z hj
    · rw [sd_gl (by omega) hj] at z
      omega
theorem sx_byte {post : Int32 → Prop} {s G : Nat} {p1 : Int32} (hs : s < 52) (hG : G ≤ 16) (hp : pz s = nI G) (h0 : sd_rj G p1 → post (-1)) (h1 : ∀ j, j < G → p1 = nI j → post (pb (s * 16 + j))) : wpX_byteOf post (sc, oc, bt, bb, da, ag, lo, tp, sb, sd, tk, fw, fv, hv, sts, ops, opn, rg, kf, kk, th, ens, mv, mm, sps, ho, pb, pz, rc, mr, md, mt, gp, qc, qq, qe, lc, tq) (nI s) p1 := by
  by_cases n : p1 < 0
  · exact br_t n (h0 (Or.inl n))
  · obtain ⟨j, hj, rfl⟩ := nI_of n
    refine br_f n ⟨vp_in_nI hs (by decide), ?_⟩
    rw [nI_clamp (by omega), hp]
    refine pk_le G j (fun z => h0 (Or.inr (nI_le z hj))) (fun z => ?_)
    have e : nI s * 16 + nI j = nI (s * 16 + j) := sd_ma s 16 j
    rw [e, nI_clamp (by omega)]
    exact ⟨vp_in_nI (by omega) (by decide), h1 j z rfl⟩
theorem sd_no {G j : Nat} (hj : j < G) (hG : G < 2 ^ 31) (h : sd_rj G (nI j)) : False := by
  rcases h with h | h
  · exact nI_pos (by omega) h
  · exact nI_ge hj hG h
theorem i_vc_got {k : Nat} {u : SX} {v : SY} (I : i_Rel k u v) (hk : k + 7 ≤ 3584) (v1 : Int32) : wpX_got (fun r => wpY_got (fun r' => r' = r ∧ i_Rel (k + 7) u v) v v1) u v1 := by
  refine sd_el (C := fun u v => wpX_got (fun r => wpY_got (fun r' => r' = r ∧ i_Rel (k + 7) u v) v v1) u v1) I (fun sc oc bt bb da ag lo tp sb sd tk tl tt ma ol dr ay gl fw fv hv sts ops opn rg kf kk th ens mv mm sps ho pb pz rc mr md mt gp qc qq qe lc tq ta lk go ca cv cm cg ow oq ox sw sa sz sg ra ac ea eb ch ty bi mk yb le gt hF hS hO hE hP hH hT hU hG hW hQ => ?_)
  have J : i_Rel (k + 7) (sc, oc, bt, bb, da, ag, lo, tp, sb, sd, tk, fw, fv, hv, sts, ops, opn, rg, kf, kk, th, ens, mv, mm, sps, ho, pb, pz, rc, mr, md, mt, gp, qc, qq, qe, lc, tq) (sc, oc, tl, tt, bt, ma, ol, tp, sb, sd, tk, dr, ay, gl, fw, fv, hv, ta, lk, go, ca, cv, cm, cg, opn, ow, oq, ox, rg, sw, sa, sz, sg, ho, kf, kk, ra, ac, ea, eb, ch, th, mv, mm, ty, bi, mk, rc, mr, md, mt, gp, yb, le, qc, qe, qq, tq, lc, gt) := sd_mk hF hS hO hE hP hH hT hU hG hW hQ
  obtain ⟨G, hG1, hG2, hG3, hG4⟩ := hG
  unfold wpX_got wpY_got
  subst hG2
  refine sx_byte (s := 51) (by omega) hG1 hG3 (fun z => ?_) (fun j hj e => ?_)
  · exact sy_inG hG1 (fun _ => sd_w0 ⟨rfl, J⟩) (fun j hj e => absurd (e ▸ z) (fun z => sd_no hj (by omega) z))
  · subst e
    refine sy_inG hG1 (fun z => absurd z (fun z => sd_no hj (by omega) z)) (fun i hi e => sd_w1 ?_)
    rw [nI_clamp (by omega)]
    exact ⟨vp_in_nI (by omega) (by decide), (hG4 j hj).symm, J⟩
theorem sy_byte {post : Int32 → Prop} {k : Nat} (hk : k < 65) (h : post (sd_ac mk (8 * k) 8)) : wpY_byteOf post (sc, oc, tl, tt, bt, ma, ol, tp, sb, sd, tk, dr, ay, gl, fw, fv, hv, ta, lk, go, ca, cv, cm, cg, opn, ow, oq, ox, rg, sw, sa, sz, sg, ho, kf, kk, ra, ac, ea, eb, ch, th, mv, mm, ty, bi, mk, rc, mr, md, mt, gp, yb, le, qc, qe, qq, tq, lc, gt) (nI k) := by
  unfold wpY_byteOf
  have e8 : 8 * nI k = nI (8 * k) := pk_mul 8 k
  have e88 : 8 * nI k + 8 = nI (8 * k + 8) := by rw [e8]; exact nI_add _ 8
  refine nm_r e8 ?_
  refine sd_lp (fun n i s => wY_byteOf_7 post (nI k) sc oc tl tt bt ma ol tp sb sd tk dr ay gl fw fv hv ta lk go ca cv cm cg opn ow oq ox rg sw sa sz sg ho kf kk ra ac ea eb ch th mv mm ty bi mk rc mr md mt gp yb le qc qe qq tq lc gt n s (nI (8 * k + i))) (fun i => sd_ac mk (8 * k) i) 8 0 (by omega) (fun n => br_t (by rw [e88]; exact nI_le (Nat.le_refl _) (by omega)) h) (fun n i _ hi ih => br_f (by rw [e88]; exact nI_ge (by omega) (by omega)) ⟨vp_in_nI (by omega) (by decide), ?_⟩)
  rw [nI_clamp (by omega)]
  refine br_c (fun z => nm_r (e' := sd_ac mk (8 * k) (i + 1)) ?_ (nm_r (nI_1 _) ih)) (fun z => nm_r (e' := sd_ac mk (8 * k) (i + 1)) ?_ (nm_r (nI_1 _) ih))
  · show 2 * sd_ac mk (8 * k) i + 0 = 2 * sd_ac mk (8 * k) i + (if mk (8 * k + i) = 0 then 0 else 1)
    rw [if_pos z]
  · show 2 * sd_ac mk (8 * k) i + 1 = 2 * sd_ac mk (8 * k) i + (if mk (8 * k + i) = 0 then 0 else 1)
    rw [if_neg z]
theorem i_vc_out {k : Nat} {u : SX} {v : SY} (I : i_Rel k u v) (hk : k + 7 ≤ 3584) (v1 : Int32) : wpX_out (fun r => wpY_out (fun r' => r' = r ∧ i_Rel (k + 7) u v) v v1) u v1 := by
  refine sd_el (C := fun u v => wpX_out (fun r => wpY_out (fun r' => r' = r ∧ i_Rel (k + 7) u v) v v1) u v1) I (fun sc oc bt bb da ag lo tp sb sd tk tl tt ma ol dr ay gl fw fv hv sts ops opn rg kf kk th ens mv mm sps ho pb pz rc mr md mt gp qc qq qe lc tq ta lk go ca cv cm cg ow oq ox sw sa sz sg ra ac ea eb ch ty bi mk yb le gt hF hS hO hE hP hH hT hU hG hW hQ => ?_)
  have J : i_Rel (k + 7) (sc, oc, bt, bb, da, ag, lo, tp, sb, sd, tk, fw, fv, hv, sts, ops, opn, rg, kf, kk, th, ens, mv, mm, sps, ho, pb, pz, rc, mr, md, mt, gp, qc, qq, qe, lc, tq) (sc, oc, tl, tt, bt, ma, ol, tp, sb, sd, tk, dr, ay, gl, fw, fv, hv, ta, lk, go, ca, cv, cm, cg, opn, ow, oq, ox, rg, sw, sa, sz, sg, ho, kf, kk, ra, ac, ea, eb, ch, th, mv, mm, ty, bi, mk, rc, mr, md, mt, gp, yb, le, qc, qe, qq, tq, lc, gt) := sd_mk hF hS hO hE hP hH hT hU hG hW hQ
  unfold wpX_out wpY_out
  rcases hU with ⟨hl, ho⟩ | ⟨hl, L, hL, ho, hz, hb⟩
  · subst hl ho
    refine br_t rfl (br_c (fun e => ⟨rfl, J⟩) (fun e => ?_))
    by_cases n : v1 < 0
    · exact br_t n (sd_w0 ⟨rfl, J⟩)
    · obtain ⟨j, hj, rfl⟩ := nI_of n
      refine br_f n (br_t ?_ (sd_w0 ⟨rfl, J⟩))
      rw [sd_ltI, nI_toInt hj]
      have e0 : ((-1 : Int32) - 1).toInt = -2 := by decide
      omega
  · subst hl ho
    refine br_f sd_10 (br_c (fun e => br_t e ⟨hz.symm, J⟩) (fun e => ?_))
    refine sx_byte (s := 50) (by omega) hL hz (fun z => br_f e ?_) (fun j hj e2 => br_f e ?_)
    · exact sy_inG hL (fun _ => sd_w0 ⟨rfl, J⟩) (fun j hj e => absurd (e ▸ z) (fun z => sd_no hj (by omega) z))
    · subst e2
      refine sy_inG hL (fun z => absurd z (fun z => sd_no hj (by omega) z)) (fun i hi e => sd_w1 (sy_byte (by omega) ⟨(hb j hj).symm, J⟩))
end
