section
variable {sc oc bt bb da ag lo tp sb sd tk : Int32} {fw fv hv sts ops opn rg kf kk th ens mv mm sps ho pb pz rc mr md mt gp qc qq qe lc tq : Nat → Int32} {tl tt ma ol dr ay gl : Int32} {ta lk go ca cv cm cg ow oq ox sw sa sz sg ra ac ea eb ch ty bi mk yb le gt : Nat → Int32}
theorem i_vc_field {k : Nat} {u : SX} {v : SY} (I : i_Rel k u v) (hk : k + 7 ≤ 3584) (v1 : Int32) : wpX_field (fun r => wpY_field (fun r' => r' = r ∧ i_Rel (k + 7) u v) v v1) u v1 := by
  obtain ⟨-, sc, oc, bt, bb, da, ag, lo, tp, sb, sd, tk, tl, tt, ma, ol, dr, ay, gl, fw, fv, hv, sts, ops, opn, rg, kf, kk, th, ens, mv, mm, sps, ho, pb, pz, rc, mr, md, mt, gp, qc, qq, qe, lc, tq, ta, lk, go, ca, cv, cm, cg, ow, oq, ox, sw, sa, sz, sg, ra, ac, ea, eb, ch, ty, bi, mk, yb, le, gt, rfl, rfl, hF, hS, hO, hE, hP, hH, hT, hU, hG, hW, hQ⟩ := I
  have J : i_Rel (k + 7) (sc, oc, bt, bb, da, ag, lo, tp, sb, sd, tk, fw, fv, hv, sts, ops, opn, rg, kf, kk, th, ens, mv, mm, sps, ho, pb, pz, rc, mr, md, mt, gp, qc, qq, qe, lc, tq) (sc, oc, tl, tt, bt, ma, ol, tp, sb, sd, tk, dr, ay, gl, fw, fv, hv, ta, lk, go, ca, cv, cm, cg, opn, ow, oq, ox, rg, sw, sa, sz, sg, ho, kf, kk, ra, ac, ea, eb, ch, th, mv, mm, ty, bi, mk, rc, mr, md, mt, gp, yb, le, qc, qe, qq, tq, lc, gt) := sd_mk hF hS hO hE hP hH hT hU hG hW hQ
  unfold wpX_field wpY_field
  rcases sd_cl 28 v1 with h | h
  · exact sx_field0 h (sd_w0 (sy_field0 h (sd_w0 ⟨rfl, J⟩)))
  · refine sx_field1 h (sd_w1 ?_)
    obtain ⟨j, hj, rfl⟩ := id h
    exact ⟨pk_in j 28 hj, sy_field1 h (sd_w1 ⟨pk_in j 28 hj, rfl, J⟩)⟩
theorem i_vc_count {k : Nat} {u : SX} {v : SY} (I : i_Rel k u v) (hk : k + 7 ≤ 3584) (v1 : Int32) : wpX_count (fun r => wpY_count (fun r' => r' = r ∧ i_Rel (k + 7) u v) v v1) u v1 := by
  obtain ⟨-, sc, oc, bt, bb, da, ag, lo, tp, sb, sd, tk, tl, tt, ma, ol, dr, ay, gl, fw, fv, hv, sts, ops, opn, rg, kf, kk, th, ens, mv, mm, sps, ho, pb, pz, rc, mr, md, mt, gp, qc, qq, qe, lc, tq, ta, lk, go, ca, cv, cm, cg, ow, oq, ox, sw, sa, sz, sg, ra, ac, ea, eb, ch, ty, bi, mk, yb, le, gt, rfl, rfl, hF, hS, hO, hE, hP, hH, hT, hU, hG, hW, hQ⟩ := I
  have J : i_Rel (k + 7) (sc, oc, bt, bb, da, ag, lo, tp, sb, sd, tk, fw, fv, hv, sts, ops, opn, rg, kf, kk, th, ens, mv, mm, sps, ho, pb, pz, rc, mr, md, mt, gp, qc, qq, qe, lc, tq) (sc, oc, tl, tt, bt, ma, ol, tp, sb, sd, tk, dr, ay, gl, fw, fv, hv, ta, lk, go, ca, cv, cm, cg, opn, ow, oq, ox, rg, sw, sa, sz, sg, ho, kf, kk, ra, ac, ea, eb, ch, th, mv, mm, ty, bi, mk, rc, mr, md, mt, gp, yb, le, qc, qe, qq, tq, lc, gt) := sd_mk hF hS hO hE hP hH hT hU hG hW hQ
  unfold wpX_count wpY_count
  rcases sd_cl 3 v1 with h | h
  · exact sx_BR 2 h (sy_in0 2 h (sd_w0 ⟨rfl, J⟩))
  · refine sx_BT 2 h ?_
    obtain ⟨j, hj, rfl⟩ := id h
    exact ⟨pk_in j 3 hj, sy_in1 2 h (sd_w1 ⟨pk_in j 3 hj, rfl, J⟩)⟩
theorem i_vc_tokens {k : Nat} {u : SX} {v : SY} (I : i_Rel k u v) (hk : k + 7 ≤ 3584) (v1 : Int32) : wpX_tokens (fun r => wpY_tokens (fun r' => r' = r ∧ i_Rel (k + 7) u v) v v1) u v1 := by
  obtain ⟨-, sc, oc, bt, bb, da, ag, lo, tp, sb, sd, tk, tl, tt, ma, ol, dr, ay, gl, fw, fv, hv, sts, ops, opn, rg, kf, kk, th, ens, mv, mm, sps, ho, pb, pz, rc, mr, md, mt, gp, qc, qq, qe, lc, tq, ta, lk, go, ca, cv, cm, cg, ow, oq, ox, sw, sa, sz, sg, ra, ac, ea, eb, ch, ty, bi, mk, yb, le, gt, rfl, rfl, hF, hS, hO, hE, hP, hH, hT, hU, hG, hW, hQ⟩ := I
  have J : i_Rel (k + 7) (sc, oc, bt, bb, da, ag, lo, tp, sb, sd, tk, fw, fv, hv, sts, ops, opn, rg, kf, kk, th, ens, mv, mm, sps, ho, pb, pz, rc, mr, md, mt, gp, qc, qq, qe, lc, tq) (sc, oc, tl, tt, bt, ma, ol, tp, sb, sd, tk, dr, ay, gl, fw, fv, hv, ta, lk, go, ca, cv, cm, cg, opn, ow, oq, ox, rg, sw, sa, sz, sg, ho, kf, kk, ra, ac, ea, eb, ch, th, mv, mm, ty, bi, mk, rc, mr, md, mt, gp, yb, le, qc, qe, qq, tq, lc, gt) := sd_mk hF hS hO hE hP hH hT hU hG hW hQ
  unfold wpX_tokens wpY_tokens
  rcases sd_cl 4 v1 with h | h
  · exact sx_meter0 h (sd_w0 (sy_in0 3 h (sd_w0 ⟨rfl, J⟩)))
  · refine sx_meter1 h (sd_w1 ?_)
    obtain ⟨j, hj, rfl⟩ := id h
    exact ⟨pk_in j 4 hj, sy_in1 3 h (sd_w1 ⟨pk_in j 4 hj, rfl, J⟩)⟩
theorem i_vc_last {k : Nat} {u : SX} {v : SY} (I : i_Rel k u v) (hk : k + 7 ≤ 3584) (v1 : Int32) : wpX_last (fun r => wpY_last (fun r' => r' = r ∧ i_Rel (k + 7) u v) v v1) u v1 := by
  obtain ⟨-, sc, oc, bt, bb, da, ag, lo, tp, sb, sd, tk, tl, tt, ma, ol, dr, ay, gl, fw, fv, hv, sts, ops, opn, rg, kf, kk, th, ens, mv, mm, sps, ho, pb, pz, rc, mr, md, mt, gp, qc, qq, qe, lc, tq, ta, lk, go, ca, cv, cm, cg, ow, oq, ox, sw, sa, sz, sg, ra, ac, ea, eb, ch, ty, bi, mk, yb, le, gt, rfl, rfl, hF, hS, hO, hE, hP, hH, hT, hU, hG, hW, hQ⟩ := I
  have J : i_Rel (k + 7) (sc, oc, bt, bb, da, ag, lo, tp, sb, sd, tk, fw, fv, hv, sts, ops, opn, rg, kf, kk, th, ens, mv, mm, sps, ho, pb, pz, rc, mr, md, mt, gp, qc, qq, qe, lc, tq) (sc, oc, tl, tt, bt, ma, ol, tp, sb, sd, tk, dr, ay, gl, fw, fv, hv, ta, lk, go, ca, cv, cm, cg, opn, ow, oq, ox, rg, sw, sa, sz, sg, ho, kf, kk, ra, ac, ea, eb, ch, th, mv, mm, ty, bi, mk, rc, mr, md, mt, gp, yb, le, qc, qe, qq, tq, lc, gt) := sd_mk hF hS hO hE hP hH hT hU hG hW hQ
  unfold wpX_last wpY_last
  rcases sd_cl 6 v1 with h | h
  · refine sx_header0 h (sd_w0 ?_)
    have Y : ∀ z : Int32, (v1 = 6 → z = tp) → (¬ v1 = 6 → v1 = 7 → z = sb) → (¬ v1 = 6 → ¬ v1 = 7 → v1 = 8 → z = sd) → (¬ v1 = 6 → ¬ v1 = 7 → ¬ v1 = 8 → z = -1) → wpY_last (fun r' => r' = z ∧ i_Rel (k + 7) (sc, oc, bt, bb, da, ag, lo, tp, sb, sd, tk, fw, fv, hv, sts, ops, opn, rg, kf, kk, th, ens, mv, mm, sps, ho, pb, pz, rc, mr, md, mt, gp, qc, qq, qe, lc, tq) (sc, oc, tl, tt, bt, ma, ol, tp, sb, sd, tk, dr, ay, gl, fw, fv, hv, ta, lk, go, ca, cv, cm, cg, opn, ow, oq, ox, rg, sw, sa, sz, sg, ho, kf, kk, ra, ac, ea, eb, ch, th, mv, mm, ty, bi, mk, rc, mr, md, mt, gp, yb, le, qc, qe, qq, tq, lc, gt)) (sc, oc, tl, tt, bt, ma, ol, tp, sb, sd, tk, dr, ay, gl, fw, fv, hv, ta, lk, go, ca, cv, cm, cg, opn, ow, oq, ox, rg, sw, sa, sz, sg, ho, kf, kk, ra, ac, ea, eb, ch, th, mv, mm, ty, bi, mk, rc, mr, md, mt, gp, yb, le, qc, qe, qq, tq, lc, gt) v1 := by
      intro z h6 h7 h8 h9
      exact sy_in0 5 h (sd_w0 (br_c (fun e => ⟨(h6 e).symm, J⟩) (fun e => br_c (fun e7 => ⟨(h7 e e7).symm, J⟩) (fun e7 => br_c (fun e8 => ⟨(h8 e e7 e8).symm, J⟩) (fun e8 => ⟨(h9 e e7 e8).symm, J⟩)))))
    refine br_c (fun a => Y _ ?_ ?_ ?_ ?_) (fun a => br_c (fun b => Y _ ?_ ?_ ?_ ?_) (fun b => br_c (fun c => Y _ ?_ ?_ ?_ ?_) (fun c => br_c (fun d => Y _ ?_ ?_ ?_ ?_) (fun d => br_c (fun e => Y _ ?_ ?_ ?_ ?_) (fun e => trivial)))))
    all_goals grind
  · refine sx_header1 h (sd_w1 ?_)
    obtain ⟨j, hj, rfl⟩ := id h
    refine ⟨pk_in j 6 hj, br_c (fun e => sy_in1 5 h (sd_w1 ⟨pk_in j 6 hj, br_t e ⟨rfl, J⟩⟩)) (fun e => sy_in1 5 h (sd_w1 ⟨pk_in j 6 hj, br_f e ⟨rfl, J⟩⟩))⟩
theorem i_vc_port {k : Nat} {u : SX} {v : SY} (I : i_Rel k u v) (hk : k + 7 ≤ 3584) (v1 : Int32) (v2 : Int32) : wpX_port (fun r => wpY_port (fun r' => r' = r ∧ i_Rel (k + 7) u v) v v1 v2) u v1 v2 := by
  obtain ⟨-, sc, oc, bt, bb, da, ag, lo, tp, sb, sd, tk, tl, tt, ma, ol, dr, ay, gl, fw, fv, hv, sts, ops, opn, rg, kf, kk, th, ens, mv, mm, sps, ho, pb, pz, rc, mr, md, mt, gp, qc, qq, qe, lc, tq, ta, lk, go, ca, cv, cm, cg, ow, oq, ox, sw, sa, sz, sg, ra, ac, ea, eb, ch, ty, bi, mk, yb, le, gt, rfl, rfl, hF, hS, hO, hE, hP, hH, hT, hU, hG, hW, hQ⟩ := I
  have J : i_Rel (k + 7) (sc, oc, bt, bb, da, ag, lo, tp, sb, sd, tk, fw, fv, hv, sts, ops, opn, rg, kf, kk, th, ens, mv, mm, sps, ho, pb, pz, rc, mr, md, mt, gp, qc, qq, qe, lc, tq) (sc, oc, tl, tt, bt, ma, ol, tp, sb, sd, tk, dr, ay, gl, fw, fv, hv, ta, lk, go, ca, cv, cm, cg, opn, ow, oq, ox, rg, sw, sa, sz, sg, ho, kf, kk, ra, ac, ea, eb, ch, th, mv, mm, ty, bi, mk, rc, mr, md, mt, gp, yb, le, qc, qe, qq, tq, lc, gt) := sd_mk hF hS hO hE hP hH hT hU hG hW hQ
  unfold wpX_port wpY_port
  rcases sd_cl 4 v1 with h | h
  · exact sx_port0 h (sd_w0 (sy_in0 3 h (sd_w0 ⟨rfl, J⟩)))
  · refine sx_port1 h (sd_w1 ?_)
    rcases sd_cl 8 v2 with g | g
    · exact sx_CR 7 g (sy_in1 3 h (sd_w1 (sy_in0 7 g (sd_w0 ⟨rfl, J⟩))))
    · refine sx_CT 7 g ?_
      obtain ⟨p, hp, rfl⟩ := id h
      obtain ⟨w, hw, rfl⟩ := id g
      have e3 : nI p * 3 = nI (p * 3) := pk_mul p 3
      have e3' : 3 * nI p = nI (p * 3) := (pk_mul 3 p).trans (by rw [Nat.mul_comm])
      rw [e3, e3', nI_add]
      refine pk_le 3 w (fun a => pk_le 6 w (fun b => pk_eq w 6 (fun c => ?_) (fun c => ?_)) (fun b => ?_)) (fun a => ?_)
      · exact ⟨pk_in p 4 hp, sy_in1 3 h (sd_w1 (sy_in1 7 g (sd_w1 (br_t (nI_le a (by omega)) (br_t (nI_le b (by omega)) (br_t ((nI_eq (by omega) (by omega)).mpr c) ⟨pk_in p 4 hp, rfl, J⟩))))))⟩
      · exact ⟨pk_in p 4 hp, sy_in1 3 h (sd_w1 (sy_in1 7 g (sd_w1 (br_t (nI_le a (by omega)) (br_t (nI_le b (by omega)) (br_f (fun z => c ((nI_eq (by omega) (by omega)).mp z)) ⟨pk_in p 4 hp, rfl, J⟩))))))⟩
      · have e : nI (p * 3 + w) - 3 = nI (p * 3 + w - 3) := pk_sub (b := 3) (by omega)
        rw [e]
        exact ⟨pk_in (p * 3 + w - 3) 12 (by omega), sy_in1 3 h (sd_w1 (sy_in1 7 g (sd_w1 (br_t (nI_le a (by omega)) (br_f (nI_ge (b := 6) b (by omega)) ⟨pk_in (p * 3 + w - 3) 12 (by omega), rfl, J⟩)))))⟩
      · exact ⟨pk_in (p * 3 + w) 12 (by omega), sy_in1 3 h (sd_w1 (sy_in1 7 g (sd_w1 (br_f (nI_ge (b := 3) a (by omega)) ⟨pk_in (p * 3 + w) 12 (by omega), rfl, J⟩))))⟩
end
