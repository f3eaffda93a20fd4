section
variable {sc oc bt bb da ag lo tp sb sd tk : Int32} {fw fv hv sts ops opn rg kf kk th ens mv mm sps ho pb pz rc mr md mt gp qc qq qe lc tq : Nat → Int32} {tl tt ma ol dr ay gl : Int32} {ta lk go ca cv cm cg ow oq ox sw sa sz sg ra ac ea eb ch ty bi mk yb le gt : Nat → Int32}
def sd_pv (w x : Int32) : Int32 := x &&& (((1 : Int32) <<< (w &&& 31)) - 1)
theorem sd_pm : ∀ a, a < 17 → (((1 : Int32) <<< (nI a &&& 31)) - 1).toBitVec.toNat = 2 ^ a - 1 := by decide +kernel
theorem sd_pvE {a : Nat} (h : a ≤ 16) (x : Int32) : ∃ b : Nat, b < 2 ^ a ∧ sd_pv (nI a) x = nI b := pk_andE x a (sd_pm a (by omega))
theorem sx_put {post : SX → Prop} {i : Nat} {x : Int32} (hi : i < 28) (h : post (sc, oc, bt, bb, da, ag, lo, tp, sb, sd, tk, fw, (upd fv i (sd_pv (fw i) x)), hv, sts, ops, opn, rg, kf, kk, th, ens, mv, mm, sps, ho, pb, pz, rc, mr, md, mt, gp, qc, qq, qe, lc, tq)) : wpX_putField post (sc, oc, bt, bb, da, ag, lo, tp, sb, sd, tk, fw, fv, hv, sts, ops, opn, rg, kf, kk, th, ens, mv, mm, sps, ho, pb, pz, rc, mr, md, mt, gp, qc, qq, qe, lc, tq) (nI i) x := by
  refine ⟨vp_in_nI hi (by decide), vp_in_nI hi (by decide), ?_⟩
  rw [nI_clamp (by omega)]
  exact nm_e h
theorem sy_put {post : SY → Prop} {i : Nat} {x : Int32} (hi : i < 28) (h : post (sc, oc, tl, tt, bt, ma, ol, tp, sb, sd, tk, dr, ay, gl, fw, (upd fv i (sd_pv (fw i) x)), hv, ta, lk, go, ca, cv, cm, cg, opn, ow, oq, ox, rg, sw, sa, sz, sg, ho, kf, kk, ra, ac, ea, eb, ch, th, mv, mm, ty, bi, mk, rc, mr, md, mt, gp, yb, le, qc, qe, qq, tq, lc, gt)) : wpY_put post (sc, oc, tl, tt, bt, ma, ol, tp, sb, sd, tk, dr, ay, gl, fw, fv, hv, ta, lk, go, ca, cv, cm, cg, opn, ow, oq, ox, rg, sw, sa, sz, sg, ho, kf, kk, ra, ac, ea, eb, ch, th, mv, mm, ty, bi, mk, rc, mr, md, mt, gp, yb, le, qc, qe, qq, tq, lc, gt) (nI i) x := by
  refine ⟨vp_in_nI hi (by decide), vp_in_nI hi (by decide), ?_⟩
  rw [nI_clamp (by omega)]
  exact nm_e h
/-- a value is put into a field -/
theorem sd_Fp (hF : sd_F fw fv hv) {i : Nat} (hi : i < 28) (x : Int32) : sd_F fw (upd fv i (sd_pv (fw i) x)) hv := by
  refine ⟨fun f hf => ?_, hF.2.1, hF.2.2⟩
  obtain ⟨a, b, ha, hb, e1, e2⟩ := hF.1 f hf
  by_cases e : f = i
  · subst e
    obtain ⟨c, hc, e3⟩ := sd_pvE ha x
    refine ⟨a, c, ha, hc, e1, ?_⟩
    rw [pk_us, e1, e3]
  · refine ⟨a, b, ha, hb, e1, ?_⟩
    rw [pk_un e, e2]
theorem sd_Fw (hF : sd_F fw fv hv) {i a : Nat} (hi : i < 24) (ha : a ≤ 16) : sd_F (upd fw i (nI a)) (upd fv i (sd_pv (upd fw i (nI a) i) (fv i))) hv := by
  refine ⟨fun f hf => ?_, fun f h0 h1 => ?_, hF.2.2⟩
  · obtain ⟨a', b, ha', hb, e1, e2⟩ := hF.1 f hf
    by_cases e : f = i
    · subst e
      obtain ⟨c, hc, e3⟩ := sd_pvE ha (fv f)
      refine ⟨a, c, ha, hc, pk_us, ?_⟩
      rw [pk_us, pk_us, e3]
    · refine ⟨a', b, ha', hb, ?_, ?_⟩
      · rw [pk_un e, e1]
      · rw [pk_un e, e2]
  · rw [pk_un (by omega)]
    exact hF.2.1 f h0 h1
theorem i_vc_width {k : Nat} {u : SX} {v : SY} (I : i_Rel k u v) (hk : k + 7 ≤ 3584) (v1 : Int32) (v2 : Int32) : wpX_width (fun r u' => wpY_width (fun r' v' => r' = r ∧ i_Rel (k + 7) u' v') v v1 v2) u v1 v2 := by
  refine sd_el (C := fun u v => wpX_width (fun r u' => wpY_width (fun r' v' => r' = r ∧ i_Rel (k + 7) u' v') v v1 v2) u v1 v2) I (fun sc oc bt bb da ag lo tp sb sd tk tl tt ma ol dr ay gl fw fv hv sts ops opn rg kf kk th ens mv mm sps ho pb pz rc mr md mt gp qc qq qe lc tq ta lk go ca cv cm cg ow oq ox sw sa sz sg ra ac ea eb ch ty bi mk yb le gt hF hS hO hE hP hH hT hU hG hW hQ => ?_)
  have J : i_Rel (k + 7) (sc, oc, bt, bb, da, ag, lo, tp, sb, sd, tk, fw, fv, hv, sts, ops, opn, rg, kf, kk, th, ens, mv, mm, sps, ho, pb, pz, rc, mr, md, mt, gp, qc, qq, qe, lc, tq) (sc, oc, tl, tt, bt, ma, ol, tp, sb, sd, tk, dr, ay, gl, fw, fv, hv, ta, lk, go, ca, cv, cm, cg, opn, ow, oq, ox, rg, sw, sa, sz, sg, ho, kf, kk, ra, ac, ea, eb, ch, th, mv, mm, ty, bi, mk, rc, mr, md, mt, gp, yb, le, qc, qe, qq, tq, lc, gt) := sd_mk hF hS hO hE hP hH hT hU hG hW hQ
  unfold wpX_width wpY_width
  rcases sd_cl 24 v1 with h | h
  · exact sx_AR 24 h (sy_in0 23 h (sd_w0 ⟨rfl, J⟩))
  · rcases sd_cl 17 v2 with g | g
    · exact sx_AT 24 h (sx_CR 16 g (sy_in1 23 h (sd_w1 (sy_in0 16 g (sd_w0 ⟨rfl, J⟩)))))
    · refine sx_AT 24 h (sx_CT 16 g ?_)
      obtain ⟨i, hi, rfl⟩ := id h
      obtain ⟨a, ha, rfl⟩ := id g
      refine sd_st i rfl (by omega) (by decide) ⟨vp_in_nI (by omega) (by decide), sx_put (by omega) ?_⟩
      refine sy_in1 23 h (sd_w1 (sy_in1 16 g (sd_w1 ?_)))
      refine sd_st i rfl (by omega) (by decide) ⟨vp_in_nI (by omega) (by decide), sy_put (by omega) ⟨rfl, ?_⟩⟩
      rw [nI_clamp (by omega)]
      exact sd_mk (sd_Fw hF hi (by omega)) hS hO hE hP hH hT hU hG hW hQ
theorem sd_Ss (hS : sd_S sts ta lk go ca cv cm cg) {s : Nat} (hs : s < 8) {a b c : Int32} (ha : a = -1 ∨ sd_rg 6 a) (hb : b = -1 ∨ sd_rg 28 b) (hc : sd_rg 10 c) :
    sd_S (upd (upd (upd (upd sts (s * 13 + 0) a) (s * 13 + 1) b) (s * 13 + 2) c) (s * 13 + 3) 0) (upd ta s a) (upd lk s b) (upd go s c) (upd ca s 0) cv cm cg := by
  intro t ht
  obtain ⟨⟨h0, h1, h2, h3⟩, h4, h5, h6, h7, h8⟩ := hS t ht
  by_cases e : t = s
  · subst e
    simp (disch := omega) only [pk_us, pk_un]
    exact ⟨⟨trivial, trivial, trivial, trivial⟩, ha, hb, hc, sd_r0 (by omega), h8⟩
  · simp (disch := omega) only [pk_un]
    refine ⟨⟨h0, h1, h2, h3⟩, h4, h5, h6, h7, fun d hd => ?_⟩
    simp (disch := omega) only [pk_un]
    exact h8 d hd
theorem i_vc_state {k : Nat} {u : SX} {v : SY} (I : i_Rel k u v) (hk : k + 7 ≤ 3584) (v1 : Int32) (v2 : Int32) (v3 : Int32) (v4 : Int32) : wpX_state (fun r u' => wpY_state (fun r' v' => r' = r ∧ i_Rel (k + 7) u' v') v v1 v2 v3 v4) u v1 v2 v3 v4 := by
  refine sd_el (C := fun u v => wpX_state (fun r u' => wpY_state (fun r' v' => r' = r ∧ i_Rel (k + 7) u' v') v v1 v2 v3 v4) u v1 v2 v3 v4) I (fun sc oc bt bb da ag lo tp sb sd tk tl tt ma ol dr ay gl fw fv hv sts ops opn rg kf kk th ens mv mm sps ho pb pz rc mr md mt gp qc qq qe lc tq ta lk go ca cv cm cg ow oq ox sw sa sz sg ra ac ea eb ch ty bi mk yb le gt hF hS hO hE hP hH hT hU hG hW hQ => ?_)
  have J : i_Rel (k + 7) (sc, oc, bt, bb, da, ag, lo, tp, sb, sd, tk, fw, fv, hv, sts, ops, opn, rg, kf, kk, th, ens, mv, mm, sps, ho, pb, pz, rc, mr, md, mt, gp, qc, qq, qe, lc, tq) (sc, oc, tl, tt, bt, ma, ol, tp, sb, sd, tk, dr, ay, gl, fw, fv, hv, ta, lk, go, ca, cv, cm, cg, opn, ow, oq, ox, rg, sw, sa, sz, sg, ho, kf, kk, ra, ac, ea, eb, ch, th, mv, mm, ty, bi, mk, rc, mr, md, mt, gp, yb, le, qc, qe, qq, tq, lc, gt) := sd_mk hF hS hO hE hP hH hT hU hG hW hQ
  unfold wpX_state wpY_state
  rcases sd_cl 8 v1 with h | h
  · exact sx_AR 8 h (sd_w0 (sy_in0 7 h (sd_w0 ⟨rfl, J⟩)))
  · rcases sd_clm 6 v2 with g | g
    · exact sx_AT 8 h (sx_MR 6 g (sd_w0 (sy_in1 7 h (sd_w1 (sy_inm0 5 g (sd_w0 ⟨rfl, J⟩))))))
    · rcases sd_clm 28 v3 with f | f
      · exact sx_AT 8 h (sx_MT 6 g (sx_MR 28 f (sd_w0 (sy_in1 7 h (sd_w1 (sy_inm1 5 g (sd_w1 (sy_inm0 27 f (sd_w0 ⟨rfl, J⟩)))))))))
      · rcases sd_cl 10 v4 with d | d
        · exact sx_AT 8 h (sx_MT 6 g (sx_MT 28 f (sx_BR 9 d (sd_w0 (sy_in1 7 h (sd_w1 (sy_inm1 5 g (sd_w1 (sy_inm1 27 f (sd_w1 (sy_in0 9 d (sd_w0 ⟨rfl, J⟩))))))))))))
        · refine sx_AT 8 h (sx_MT 6 g (sx_MT 28 f (sx_BT 9 d (sd_w1 ?_))))
          obtain ⟨s, hs, rfl⟩ := id h
          refine nm_r (e' := nI (s * 13)) (pk_mul s 13) (sd_st (s * 13 + 0) (nI_add _ 0) (by omega) (by decide) (sd_st (s * 13 + 1) (nI_add _ 1) (by omega) (by decide) (sd_st (s * 13 + 2) (nI_add _ 2) (by omega) (by decide) (sd_st (s * 13 + 3) (nI_add _ 3) (by omega) (by decide) ?_))))
          refine sy_in1 7 h (sd_w1 (sy_inm1 5 g (sd_w1 (sy_inm1 27 f (sd_w1 (sy_in1 9 d (sd_w1 ?_)))))))
          exact sd_st s rfl hs (by decide) (sd_st s rfl hs (by decide) (sd_st s rfl hs (by decide) (sd_st s rfl hs (by decide) ⟨rfl, sd_mk hF (sd_Ss hS hs g f d) hO hE hP hH hT hU hG hW hQ⟩)))
theorem sd_Sb (hS : sd_S sts ta lk go ca cv cm cg) {s n : Nat} (hs : s < 8) (hn : n < 3) {a b c : Int32} (hc : sd_rg 10 c) (hca : ca s = nI n) :
    sd_S (upd (upd (upd (upd sts (s * 13 + 4 + n * 3) a) (s * 13 + 4 + n * 3 + 1) b) (s * 13 + 4 + n * 3 + 2) c) (s * 13 + 3) (nI (n + 1))) ta lk go (upd ca s (nI (n + 1))) (upd cv (3 * s + n) a) (upd cm (3 * s + n) b) (upd cg (3 * s + n) c) := by
  intro t ht
  obtain ⟨⟨h0, h1, h2, h3⟩, h4, h5, h6, h7, h8⟩ := hS t ht
  by_cases e : t = s
  · subst e
    simp (disch := omega) only [pk_us, pk_un]
    refine ⟨⟨h0, h1, h2, trivial⟩, h4, h5, h6, ⟨n + 1, by omega, rfl⟩, fun d hd => ?_⟩
    obtain ⟨g1, g2, g3, g4⟩ := h8 d hd
    by_cases e : d = n
    · subst e
      simp (disch := omega) only [pk_us, pk_un]
      exact ⟨trivial, trivial, trivial, hc⟩
    · simp (disch := omega) only [pk_un]
      exact ⟨g1, g2, g3, g4⟩
  · simp (disch := omega) only [pk_un]
    refine ⟨⟨h0, h1, h2, h3⟩, h4, h5, h6, h7, fun d hd => ?_⟩
    obtain ⟨g1, g2, g3, g4⟩ := h8 d hd
    simp (disch := omega) only [pk_un]
    exact ⟨g1, g2, g3, g4⟩
theorem i_vc_branch {k : Nat} {u : SX} {v : SY} (I : i_Rel k u v) (hk : k + 7 ≤ 3584) (v1 : Int32) (v2 : Int32) (v3 : Int32) (v4 : Int32) : wpX_branch (fun r u' => wpY_branch (fun r' v' => r' = r ∧ i_Rel (k + 7) u' v') v v1 v2 v3 v4) u v1 v2 v3 v4 := by
  refine sd_el (C := fun u v => wpX_branch (fun r u' => wpY_branch (fun r' v' => r' = r ∧ i_Rel (k + 7) u' v') v v1 v2 v3 v4) u v1 v2 v3 v4) I (fun sc oc bt bb da ag lo tp sb sd tk tl tt ma ol dr ay gl fw fv hv sts ops opn rg kf kk th ens mv mm sps ho pb pz rc mr md mt gp qc qq qe lc tq ta lk go ca cv cm cg ow oq ox sw sa sz sg ra ac ea eb ch ty bi mk yb le gt hF hS hO hE hP hH hT hU hG hW hQ => ?_)
  have J : i_Rel (k + 7) (sc, oc, bt, bb, da, ag, lo, tp, sb, sd, tk, fw, fv, hv, sts, ops, opn, rg, kf, kk, th, ens, mv, mm, sps, ho, pb, pz, rc, mr, md, mt, gp, qc, qq, qe, lc, tq) (sc, oc, tl, tt, bt, ma, ol, tp, sb, sd, tk, dr, ay, gl, fw, fv, hv, ta, lk, go, ca, cv, cm, cg, opn, ow, oq, ox, rg, sw, sa, sz, sg, ho, kf, kk, ra, ac, ea, eb, ch, th, mv, mm, ty, bi, mk, rc, mr, md, mt, gp, yb, le, qc, qe, qq, tq, lc, gt) := sd_mk hF hS hO hE hP hH hT hU hG hW hQ
  unfold wpX_branch wpY_branch
  rcases sd_cl 8 v1 with h | h
  · exact sx_AR 8 h (sy_in0 7 h (sd_w0 ⟨rfl, J⟩))
  · rcases sd_cl 10 v4 with d | d
    · refine sx_AT 8 h (sx_CR 9 d ?_)
      rcases sd_cl 65536 v2 with g | g
      · exact sy_in1 7 h (sd_w1 (sy_word0 g (sd_w0 ⟨rfl, J⟩)))
      · rcases sd_cl 65536 v3 with f | f
        · exact sy_in1 7 h (sd_w1 (sy_word1 g (sd_w1 (sy_word0 f (sd_w0 ⟨rfl, J⟩)))))
        · exact sy_in1 7 h (sd_w1 (sy_word1 g (sd_w1 (sy_word1 f (sd_w1 (sy_in0 9 d (sd_w0 ⟨rfl, J⟩)))))))
    · refine sx_AT 8 h (sx_CT 9 d ?_)
      rcases sd_cl 65536 v2 with g | g
      · exact sx_word0 g (sd_w0 (sy_in1 7 h (sd_w1 (sy_word0 g (sd_w0 ⟨rfl, J⟩)))))
      · refine sx_word1 g (sd_w1 ?_)
        rcases sd_cl 65536 v3 with f | f
        · exact sx_word0 f (sd_w0 (sy_in1 7 h (sd_w1 (sy_word1 g (sd_w1 (sy_word0 f (sd_w0 ⟨rfl, J⟩)))))))
        · refine sx_word1 f (sd_w1 ?_)
          obtain ⟨s, hs, rfl⟩ := id h
          have hs' := hS s hs
          obtain ⟨n, hn, hca⟩ := hs'.2.2.2.2.1
          have e3 : nI s * 13 + 3 = nI (s * 13 + 3) := sd_ma s 13 3
          have e4 : nI s * 13 + 4 = nI (s * 13 + 4) := sd_ma s 13 4
          rw [e3, e4, nI_clamp (n := s * 13 + 3) (by omega)]
          refine ⟨vp_in_nI (by omega) (by decide), nm_r (e' := nI n) (hs'.1.2.2.2.trans hca) ?_⟩
          refine pk_lt n 3 (fun n3 => ?_) (fun n3 => ?_)
          · refine nm_r (e' := nI (s * 13 + 4 + n * 3)) ((congrArg _ (pk_mul n 3)).trans (nI_add _ _)) ?_
            refine sd_st (s * 13 + 4 + n * 3) rfl (by omega) (by decide) (sd_st (s * 13 + 4 + n * 3 + 1) (nI_add _ 1) (by omega) (by decide) (sd_st (s * 13 + 4 + n * 3 + 2) (nI_add _ 2) (by omega) (by decide) ⟨vp_in_nI (by omega) (by decide), ?_⟩))
            rw [nI_1]
            refine nm_e ?_
            refine sy_in1 7 h (sd_w1 (sy_word1 g (sd_w1 (sy_word1 f (sd_w1 (sy_in1 9 d (sd_w1 ⟨vp_in_nI hs (by decide), ?_⟩)))))))
            rw [nI_clamp (n := s) (by omega), hca]
            refine br_f (fun z => absurd ((nI_eq (a := n) (b := 3) (by omega) (by omega)).mp z) (by omega)) ⟨vp_in_nI hs (by decide), ?_⟩
            refine nm_r (e' := nI (3 * s + n)) (sd_am s 3 n) (sd_st (3 * s + n) rfl (by omega) (by decide) (sd_st (3 * s + n) rfl (by omega) (by decide) (sd_st (3 * s + n) rfl (by omega) (by decide) ⟨vp_in_nI hs (by decide), vp_in_nI hs (by decide), ?_⟩)))
            rw [nI_1]
            refine nm_e ⟨rfl, sd_mk hF (sd_Sb hS hs n3 d hca) hO hE hP hH hT hU hG hW hQ⟩
          · refine sy_in1 7 h (sd_w1 (sy_word1 g (sd_w1 (sy_word1 f (sd_w1 (sy_in1 9 d (sd_w1 ⟨vp_in_nI hs (by decide), ?_⟩)))))))
            rw [nI_clamp (n := s) (by omega), hca]
            exact br_t ((nI_eq (a := n) (b := 3) (by omega) (by omega)).mpr (by omega)) ⟨rfl, J⟩
end
