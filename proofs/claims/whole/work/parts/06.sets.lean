section
variable {sc oc bt bb da ag lo tp sb sd tk : Int32} {fw fv hv sts ops opn rg kf kk th ens mv mm sps ho pb pz rc mr md mt gp qc qq qe lc tq : Nat → Int32} {tl tt ma ol dr ay gl : Int32} {ta lk go ca cv cm cg ow oq ox sw sa sz sg ra ac ea eb ch ty bi mk yb le gt : Nat → Int32}
theorem i_vc_order {k : Nat} {u : SX} {v : SY} (I : i_Rel k u v) (hk : k + 7 ≤ 3584) (v1 : Int32) : wpX_order (fun r u' => wpY_order (fun r' v' => r' = r ∧ i_Rel (k + 7) u' v') v v1) u v1 := by
  refine sd_el (C := fun u v => wpX_order (fun r u' => wpY_order (fun r' v' => r' = r ∧ i_Rel (k + 7) u' v') v v1) u v1) I (fun sc oc bt bb da ag lo tp sb sd tk tl tt ma ol dr ay gl fw fv hv sts ops opn rg kf kk th ens mv mm sps ho pb pz rc mr md mt gp qc qq qe lc tq ta lk go ca cv cm cg ow oq ox sw sa sz sg ra ac ea eb ch ty bi mk yb le gt hF hS hO hE hP hH hT hU hG hW hQ => ?_)
  have J : i_Rel (k + 7) (sc, oc, bt, bb, da, ag, lo, tp, sb, sd, tk, fw, fv, hv, sts, ops, opn, rg, kf, kk, th, ens, mv, mm, sps, ho, pb, pz, rc, mr, md, mt, gp, qc, qq, qe, lc, tq) (sc, oc, tl, tt, bt, ma, ol, tp, sb, sd, tk, dr, ay, gl, fw, fv, hv, ta, lk, go, ca, cv, cm, cg, opn, ow, oq, ox, rg, sw, sa, sz, sg, ho, kf, kk, ra, ac, ea, eb, ch, th, mv, mm, ty, bi, mk, rc, mr, md, mt, gp, yb, le, qc, qe, qq, tq, lc, gt) := sd_mk hF hS hO hE hP hH hT hU hG hW hQ
  unfold wpX_order wpY_order
  rcases sd_cl 6 v1 with h | h
  · exact sx_header0 h (sd_w0 (sy_in0 5 h (sd_w0 ⟨rfl, J⟩)))
  · obtain ⟨N, hN, rfl, hR⟩ := hH
    refine sx_header1 h (sd_w1 (pk_lt N 6 (fun n6 => ?_) (fun n6 => ?_)))
    · refine sd_st N rfl n6 (by decide) ?_
      rw [nI_1]
      refine nm_e (sy_in1 5 h (sd_w1 (br_f (fun z => absurd ((nI_eq (a := N) (b := 6) (by omega) (by omega)).mp z) (by omega)) (sd_st N rfl n6 (by decide) ?_))))
      rw [nI_1]
      refine nm_e ⟨rfl, sd_mk hF hS hO hE hP ⟨N + 1, by omega, rfl, fun i hi => ?_⟩ hT hU hG hW hQ⟩
      by_cases e : i = N
      · subst e; rw [pk_us]; exact h
      · rw [pk_un e]; exact hR i hi
    · exact sy_in1 5 h (sd_w1 (br_t ((nI_eq (a := N) (b := 6) (by omega) (by omega)).mpr (by omega)) ⟨rfl, J⟩))
theorem i_vc_type {k : Nat} {u : SX} {v : SY} (I : i_Rel k u v) (hk : k + 7 ≤ 3584) (v1 : Int32) : wpX_type (fun r u' => wpY_type (fun r' v' => r' = r ∧ i_Rel (k + 7) u' v') v v1) u v1 := by
  refine sd_el (C := fun u v => wpX_type (fun r u' => wpY_type (fun r' v' => r' = r ∧ i_Rel (k + 7) u' v') v v1) u v1) I (fun sc oc bt bb da ag lo tp sb sd tk tl tt ma ol dr ay gl fw fv hv sts ops opn rg kf kk th ens mv mm sps ho pb pz rc mr md mt gp qc qq qe lc tq ta lk go ca cv cm cg ow oq ox sw sa sz sg ra ac ea eb ch ty bi mk yb le gt hF hS hO hE hP hH hT hU hG hW hQ => ?_)
  have J : i_Rel (k + 7) (sc, oc, bt, bb, da, ag, lo, tp, sb, sd, tk, fw, fv, hv, sts, ops, opn, rg, kf, kk, th, ens, mv, mm, sps, ho, pb, pz, rc, mr, md, mt, gp, qc, qq, qe, lc, tq) (sc, oc, tl, tt, bt, ma, ol, tp, sb, sd, tk, dr, ay, gl, fw, fv, hv, ta, lk, go, ca, cv, cm, cg, opn, ow, oq, ox, rg, sw, sa, sz, sg, ho, kf, kk, ra, ac, ea, eb, ch, th, mv, mm, ty, bi, mk, rc, mr, md, mt, gp, yb, le, qc, qe, qq, tq, lc, gt) := sd_mk hF hS hO hE hP hH hT hU hG hW hQ
  unfold wpX_type wpY_type
  obtain ⟨⟨T, hT1, rfl, hT2⟩, hT3⟩ := hT
  refine nm_r (e' := nI T) hT2 (pk_lt T 16 (fun t6 => ?_) (fun t6 => ?_))
  · refine sd_st (768 + T) (nI_add 768 T) (by omega) (by decide) ?_
    rw [nI_1]
    refine nm_e (br_f (fun z => absurd ((nI_eq (a := T) (b := 16) (by omega) (by omega)).mp z) (by omega)) (sd_st T rfl t6 (by decide) ?_))
    rw [nI_1]
    refine nm_e ⟨rfl, sd_mk hF hS hO hE hP hH ⟨⟨T + 1, by omega, rfl, pk_us⟩, fun j hj => ?_⟩ ?_ ?_ ?_ hQ⟩
    · by_cases e : j = T
      · subst e; rw [pk_us, pk_us]
      · rw [pk_un e, pk_un (by omega)]; exact hT3 j hj
    · rcases hU with hU | ⟨h1, L, h2, h3, h4, h5⟩
      · exact Or.inl hU
      · refine Or.inr ⟨h1, L, h2, h3, ?_, fun i hi => ?_⟩
        · rw [pk_un (by omega)]; exact h4
        · rw [pk_un (by omega)]; exact h5 i hi
    · obtain ⟨G, h1, h2, h3, h4⟩ := hG
      refine ⟨G, h1, h2, ?_, fun j hj => ?_⟩
      · rw [pk_un (by omega)]; exact h3
      · rw [pk_un (by omega)]; exact h4 j hj
    · intro q hq
      obtain ⟨C, h1, h2, h3⟩ := hW q hq
      refine ⟨C, h1, h2, fun i hi => ?_⟩
      obtain ⟨L, g1, g2, g3, g4⟩ := h3 i hi
      refine ⟨L, g1, g2, ?_, fun j hj => ?_⟩
      · rw [pk_un (by omega)]; exact g3
      · rw [pk_un (by omega)]; exact g4 j hj
  · exact br_t ((nI_eq (a := T) (b := 16) (by omega) (by omega)).mpr (by omega)) ⟨rfl, J⟩
theorem i_vc_register {k : Nat} {u : SX} {v : SY} (I : i_Rel k u v) (hk : k + 7 ≤ 3584) (v1 : Int32) (v2 : Int32) (v3 : Int32) : wpX_register (fun r u' => wpY_register (fun r' v' => r' = r ∧ i_Rel (k + 7) u' v') v v1 (lw_bz v2) v3) u v1 (lw_bz v2) v3 := by
  refine sd_el (C := fun u v => wpX_register (fun r u' => wpY_register (fun r' v' => r' = r ∧ i_Rel (k + 7) u' v') v v1 (lw_bz v2) v3) u v1 (lw_bz v2) v3) I (fun sc oc bt bb da ag lo tp sb sd tk tl tt ma ol dr ay gl fw fv hv sts ops opn rg kf kk th ens mv mm sps ho pb pz rc mr md mt gp qc qq qe lc tq ta lk go ca cv cm cg ow oq ox sw sa sz sg ra ac ea eb ch ty bi mk yb le gt hF hS hO hE hP hH hT hU hG hW hQ => ?_)
  have J : i_Rel (k + 7) (sc, oc, bt, bb, da, ag, lo, tp, sb, sd, tk, fw, fv, hv, sts, ops, opn, rg, kf, kk, th, ens, mv, mm, sps, ho, pb, pz, rc, mr, md, mt, gp, qc, qq, qe, lc, tq) (sc, oc, tl, tt, bt, ma, ol, tp, sb, sd, tk, dr, ay, gl, fw, fv, hv, ta, lk, go, ca, cv, cm, cg, opn, ow, oq, ox, rg, sw, sa, sz, sg, ho, kf, kk, ra, ac, ea, eb, ch, th, mv, mm, ty, bi, mk, rc, mr, md, mt, gp, yb, le, qc, qe, qq, tq, lc, gt) := sd_mk hF hS hO hE hP hH hT hU hG hW hQ
  unfold wpX_register wpY_register
  rcases sd_cl 8 v1 with h | h
  · exact sx_DR 8 h (sy_in0 7 h (sd_w0 ⟨rfl, J⟩))
  · refine sx_DT 8 h ?_
    obtain ⟨j, hj, rfl⟩ := id h
    refine br_c (fun z => ⟨vp_in_nI hj (by decide), sy_in1 7 h (sd_w1 (br_t z ⟨vp_in_nI hj (by decide), rfl, J⟩))⟩) (fun z => ?_)
    refine sd_st j rfl hj (by decide) ⟨vp_in_nI hj (by decide), sy_in1 7 h (sd_w1 (br_f z (sd_st j rfl hj (by decide) ⟨vp_in_nI hj (by decide), rfl, sd_mk hF hS hO hE hP hH hT hU hG hW hQ⟩)))⟩
theorem sd_Ee (hE : sd_E kf kk th ens mm ra ac ea eb ch) {x : Nat} : sd_E kf kk (upd th x 0) ens mm ra ac ea eb ch := by
  refine ⟨hE.1, hE.2.1, hE.2.2.1, fun t ht e he h => ?_⟩
  by_cases z : 13 * t + e = x
  · rw [z, pk_us] at h
    exact absurd rfl h
  · rw [pk_un z] at h
    exact hE.2.2.2 t ht e he h
theorem i_vc_erase {k : Nat} {u : SX} {v : SY} (I : i_Rel k u v) (hk : k + 7 ≤ 3584) (v1 : Int32) (v2 : Int32) : wpX_erase (fun r u' => wpY_erase (fun r' v' => r' = r ∧ i_Rel (k + 7) u' v') v v1 v2) u v1 v2 := by
  refine sd_el (C := fun u v => wpX_erase (fun r u' => wpY_erase (fun r' v' => r' = r ∧ i_Rel (k + 7) u' v') v v1 v2) u v1 v2) I (fun sc oc bt bb da ag lo tp sb sd tk tl tt ma ol dr ay gl fw fv hv sts ops opn rg kf kk th ens mv mm sps ho pb pz rc mr md mt gp qc qq qe lc tq ta lk go ca cv cm cg ow oq ox sw sa sz sg ra ac ea eb ch ty bi mk yb le gt hF hS hO hE hP hH hT hU hG hW hQ => ?_)
  have J : i_Rel (k + 7) (sc, oc, bt, bb, da, ag, lo, tp, sb, sd, tk, fw, fv, hv, sts, ops, opn, rg, kf, kk, th, ens, mv, mm, sps, ho, pb, pz, rc, mr, md, mt, gp, qc, qq, qe, lc, tq) (sc, oc, tl, tt, bt, ma, ol, tp, sb, sd, tk, dr, ay, gl, fw, fv, hv, ta, lk, go, ca, cv, cm, cg, opn, ow, oq, ox, rg, sw, sa, sz, sg, ho, kf, kk, ra, ac, ea, eb, ch, th, mv, mm, ty, bi, mk, rc, mr, md, mt, gp, yb, le, qc, qe, qq, tq, lc, gt) := sd_mk hF hS hO hE hP hH hT hU hG hW hQ
  unfold wpX_erase wpY_erase
  rcases sd_clE v1 v2 with h | ⟨t, e, ht, he, rfl, rfl⟩
  · exact sx_ent0 h (sd_w0 (sy_ent0 h (sd_w0 ⟨sd_n0, rfl, J⟩)))
  · refine sx_ent1 ht he (fun z => sd_w0 (sy_ent1 ht he (fun _ => sd_w0 ⟨sd_n0, rfl, J⟩) (fun y => absurd z y))) (fun z => sd_w1 ?_)
    refine sd_st (13 * t + e) (sd_13' t e) (by omega) (by decide) (sy_ent1 ht he (fun y => absurd y z) (fun _ => sd_w1 (sd_st (13 * t + e) (sd_13 t e) (by omega) (by decide) ⟨sd_n1, rfl, ?_⟩)))
    rw [sd_b0]
    exact sd_mk hF hS hO (sd_Ee hE) hP hH hT hU hG hW hQ
theorem i_vc_clear {k : Nat} {u : SX} {v : SY} (I : i_Rel k u v) (hk : k + 7 ≤ 3584) (v1 : Int32) (v2 : Int32) : wpX_clear (fun r u' => wpY_clear (fun r' v' => r' = r ∧ i_Rel (k + 7) u' v') v v1 v2) u v1 v2 := by
  refine sd_el (C := fun u v => wpX_clear (fun r u' => wpY_clear (fun r' v' => r' = r ∧ i_Rel (k + 7) u' v') v v1 v2) u v1 v2) I (fun sc oc bt bb da ag lo tp sb sd tk tl tt ma ol dr ay gl fw fv hv sts ops opn rg kf kk th ens mv mm sps ho pb pz rc mr md mt gp qc qq qe lc tq ta lk go ca cv cm cg ow oq ox sw sa sz sg ra ac ea eb ch ty bi mk yb le gt hF hS hO hE hP hH hT hU hG hW hQ => ?_)
  have J : i_Rel (k + 7) (sc, oc, bt, bb, da, ag, lo, tp, sb, sd, tk, fw, fv, hv, sts, ops, opn, rg, kf, kk, th, ens, mv, mm, sps, ho, pb, pz, rc, mr, md, mt, gp, qc, qq, qe, lc, tq) (sc, oc, tl, tt, bt, ma, ol, tp, sb, sd, tk, dr, ay, gl, fw, fv, hv, ta, lk, go, ca, cv, cm, cg, opn, ow, oq, ox, rg, sw, sa, sz, sg, ho, kf, kk, ra, ac, ea, eb, ch, th, mv, mm, ty, bi, mk, rc, mr, md, mt, gp, yb, le, qc, qe, qq, tq, lc, gt) := sd_mk hF hS hO hE hP hH hT hU hG hW hQ
  unfold wpX_clear wpY_clear
  by_cases z0 : v1 = 0
  · subst z0
    refine br_t rfl ?_
    rcases sd_cl 8 v2 with h | h
    · exact sx_AR 8 h (br_f (by decide) (br_f (by decide) (br_f (by decide) (sy_in1 3 ⟨0, by omega, rfl⟩ (sd_w1 (br_t rfl (sy_in0 7 h (sd_w0 ⟨rfl, J⟩))))))))
    · obtain ⟨j, hj, rfl⟩ := id h
      refine sx_AT 8 h ⟨vp_in_nI hj (by decide), ?_⟩
      rw [nI_clamp (by omega)]
      refine nm_e ⟨vp_in_nI hj (by decide), nm_e (sy_in1 3 ⟨0, by omega, rfl⟩ (sd_w1 (br_t rfl (sy_in1 7 h (sd_w1 (br_t rfl ⟨vp_in_nI hj (by decide), br_t rfl ⟨vp_in_nI hj (by decide), ?_⟩⟩))))))⟩
      rw [nI_clamp (by omega)]
      refine nm_e (br_f (by decide) (br_f (by decide) (br_f (by decide) ⟨rfl, sd_mk hF hS ⟨fun a ha => ?_, hO.2⟩ hE hP hH hT hU hG hW hQ⟩)))
      by_cases e : a = j
      · subst e; rw [pk_us]; exact sd_r0 (by omega)
      · rw [pk_un e]; exact hO.1 a ha
  · refine br_f z0 ?_
    by_cases z1 : v1 = 1
    · subst z1
      exact br_t rfl (sy_in1 3 ⟨1, by omega, rfl⟩ (sd_w1 (br_f (by decide) (br_f (by decide) (br_t rfl (br_f (by decide) (br_t rfl (br_f (by decide) (br_f (by decide) ⟨rfl, sd_mk hF hS hO hE ⟨0, by omega, rfl, hP.choose_spec.2.2.1, fun i hi => absurd hi (by omega)⟩ hH hT hU hG hW hQ⟩)))))))))
    · refine br_f z1 ?_
      by_cases z2 : v1 = 2
      · subst z2
        obtain ⟨N, hN, rfl, hR⟩ := hH
        exact br_t rfl (sy_in1 3 ⟨2, by omega, rfl⟩ (sd_w1 (br_f (by decide) (br_f (by decide) (br_f (by decide) (br_t rfl (br_f (by decide) (br_f (by decide) (br_t rfl (br_f (by decide) ⟨rfl, sd_mk hF hS hO hE hP ⟨0, by omega, rfl, hR⟩ hT hU hG hW hQ⟩))))))))))
      · refine br_f z2 ?_
        by_cases z3 : v1 = 3
        · subst z3
          refine br_t rfl (nm_e (nm_e (sy_in1 3 ⟨3, by omega, rfl⟩ (sd_w1 (br_f (by decide) (br_f (by decide) (br_f (by decide) (br_f (by decide) (br_f (by decide) (br_f (by decide) (br_f (by decide) (br_t rfl ⟨?_, sd_mk hF hS hO hE hP hH ⟨⟨0, by omega, rfl, pk_us⟩, hT.2⟩ ?_ ?_ ?_ hQ⟩))))))))))))
          · obtain ⟨⟨T, _, e1, e2⟩, _⟩ := hT
            rw [e1, e2]
          · rcases hU with hU | ⟨h1, L, h2, h3, h4, h5⟩
            · exact Or.inl hU
            · refine Or.inr ⟨h1, L, h2, h3, ?_, h5⟩
              rw [pk_un (by omega)]; exact h4
          · obtain ⟨G, h1, h2, h3, h4⟩ := hG
            refine ⟨G, h1, h2, ?_, h4⟩
            rw [pk_un (by omega)]; exact h3
          · intro q hq
            obtain ⟨C, h1, h2, h3⟩ := hW q hq
            refine ⟨C, h1, h2, fun i hi => ?_⟩
            obtain ⟨L, g1, g2, g3, g4⟩ := h3 i hi
            refine ⟨L, g1, g2, ?_, g4⟩
            rw [pk_un (by omega)]; exact g3
        · refine br_f z3 ?_
          rcases sd_cl 4 v1 with h | h
          · exact sy_in0 3 h (sd_w0 ⟨rfl, J⟩)
          · exfalso
            obtain ⟨j, hj, rfl⟩ := h
            have : j = 0 ∨ j = 1 ∨ j = 2 ∨ j = 3 := by omega
            rcases this with rfl | rfl | rfl | rfl
            · exact z0 rfl
            · exact z1 rfl
            · exact z2 rfl
            · exact z3 rfl
end
