section
variable {sc oc bt bb da ag lo tp sb sd tk : Int32} {fw fv hv sts ops opn rg kf kk th ens mv mm sps ho pb pz rc mr md mt gp qc qq qe lc tq : Nat → Int32} {tl tt ma ol dr ay gl : Int32} {ta lk go ca cv cm cg ow oq ox sw sa sz sg ra ac ea eb ch ty bi mk yb le gt : Nat → Int32}
theorem sd_idx (t e c : Nat) : (nI t * 13 + nI e) * 2 + nI c = nI (2 * (13 * t + e) + c) := by
  rw [sd_13']
  exact (sd_ma (13 * t + e) 2 c).trans (by rw [Nat.mul_comm])
theorem sd_idy (t e c : Nat) : 26 * nI t + 2 * nI e + nI c = nI (2 * (13 * t + e) + c) := by
  have e1 : 26 * nI t = nI (26 * t) := pk_mul 26 t
  have e2 : 2 * nI e = nI (2 * e) := pk_mul 2 e
  rw [e1, e2, nI_add, nI_add]
  congr 1
  omega
theorem sd_Em (hE : sd_E kf kk th ens mm ra ac ea eb ch) {t e c : Nat} (ht : t < 4) (he : e < 12) (hc : c < 2) {m : Int32} (hm : kk (2 * t + c) = 1 → sd_rg 17 m) : sd_E kf kk th ens (upd mm (2 * (13 * t + e) + c) m) ra ac ea eb ch := by
  refine ⟨hE.1, hE.2.1, hE.2.2.1, fun t' ht' e' he' h c' hc' hk => ?_⟩
  by_cases z : 2 * (13 * t' + e') + c' = 2 * (13 * t + e) + c
  · have z1 : t' = t := by omega
    have z2 : c' = c := by omega
    subst z1 z2
    rw [z, pk_us]
    exact hm hk
  · rw [pk_un z]
    exact hE.2.2.2 t' ht' e' he' h c' hc' hk
theorem i_vc_match {k : Nat} {u : SX} {v : SY} (I : i_Rel k u v) (hk : k + 7 ≤ 3584) (v1 : Int32) (v2 : Int32) (v3 : Int32) (v4 : Int32) (v5 : Int32) : wpX_match (fun r u' => wpY_match (fun r' v' => r' = r ∧ i_Rel (k + 7) u' v') v v1 v2 v3 v4 v5) u v1 v2 v3 v4 v5 := by
  refine sd_el (C := fun u v => wpX_match (fun r u' => wpY_match (fun r' v' => r' = r ∧ i_Rel (k + 7) u' v') v v1 v2 v3 v4 v5) u v1 v2 v3 v4 v5) I (fun sc oc bt bb da ag lo tp sb sd tk tl tt ma ol dr ay gl fw fv hv sts ops opn rg kf kk th ens mv mm sps ho pb pz rc mr md mt gp qc qq qe lc tq ta lk go ca cv cm cg ow oq ox sw sa sz sg ra ac ea eb ch ty bi mk yb le gt hF hS hO hE hP hH hT hU hG hW hQ => ?_)
  have J : i_Rel (k + 7) (sc, oc, bt, bb, da, ag, lo, tp, sb, sd, tk, fw, fv, hv, sts, ops, opn, rg, kf, kk, th, ens, mv, mm, sps, ho, pb, pz, rc, mr, md, mt, gp, qc, qq, qe, lc, tq) (sc, oc, tl, tt, bt, ma, ol, tp, sb, sd, tk, dr, ay, gl, fw, fv, hv, ta, lk, go, ca, cv, cm, cg, opn, ow, oq, ox, rg, sw, sa, sz, sg, ho, kf, kk, ra, ac, ea, eb, ch, th, mv, mm, ty, bi, mk, rc, mr, md, mt, gp, yb, le, qc, qe, qq, tq, lc, gt) := sd_mk hF hS hO hE hP hH hT hU hG hW hQ
  unfold wpX_match wpY_match
  rcases sd_clE v1 v2 with h | ⟨t, e, ht, he, rfl, rfl⟩
  · exact sx_ent0 h (sd_w0 (sy_ent0 h (sd_w0 ⟨rfl, J⟩)))
  · refine sx_ent1 ht he (fun z => sd_w0 (sy_ent1 ht he (fun _ => sd_w0 ⟨rfl, J⟩) (fun y => absurd z y))) (fun z => sd_w1 ?_)
    rcases sd_cl 2 v3 with h | h
    · exact sx_AR 2 h (sy_ent1 ht he (fun y => absurd y z) (fun _ => sd_w1 (sy_in0 1 h (sd_w0 ⟨rfl, J⟩))))
    · refine sx_AT 2 h ?_
      obtain ⟨c, hc, rfl⟩ := id h
      have i1 : nI t * 2 + nI c = nI (2 * t + c) := (sd_ma t 2 c).trans (by rw [Nat.mul_comm])
      have i2 : 2 * nI t + nI c = nI (2 * t + c) := sd_am t 2 c
      have kf1 : kf (2 * t + c) = -1 ∨ sd_rg 28 (kf (2 * t + c)) := by
        have := hE.1 t ht
        have : c = 0 ∨ c = 1 := by omega
        rcases this with rfl | rfl
        · exact Or.inr (hE.1 t ht).1
        · exact (hE.1 t ht).2
      have kk1 := hE.2.1 (2 * t + c) (by omega)
      rcases sd_cl 65536 v4 with g | g
      · refine sx_word0 g (sd_w0 (sy_ent1 ht he (fun y => absurd y z) (fun _ => sd_w1 (sy_in1 1 h (sd_w1 ?_)))))
        rw [i2, nI_clamp (by omega)]
        exact ⟨vp_in_nI (by omega) (by decide), br_c (fun _ => ⟨rfl, J⟩) (fun _ => sy_word0 g (sd_w0 ⟨rfl, J⟩))⟩
      · refine sx_word1 g (sd_w1 ?_)
        rw [i1, nI_clamp (by omega)]
        refine ⟨vp_in_nI (by omega) (by decide), ?_⟩
        rcases kf1 with kf1 | ⟨f, hf, kf1⟩
        · refine br_t kf1 (sy_ent1 ht he (fun y => absurd y z) (fun _ => sd_w1 (sy_in1 1 h (sd_w1 ?_))))
          rw [i2, nI_clamp (by omega), kf1]
          exact ⟨vp_in_nI (by omega) (by decide), br_t (by decide) ⟨rfl, J⟩⟩
        · have nk : ¬ kf (2 * t + c) = -1 := by rw [kf1]; exact sd_ne (by omega)
          have nk0 : ¬ kf (2 * t + c) < 0 := by rw [kf1]; exact nI_pos (by omega)
          refine br_f nk ⟨vp_in_nI (by omega) (by decide), ?_⟩
          -- the two ends
          have no : ∀ (w : sd_rj 17 v5 ∧ kk (2 * t + c) = 1 ∨ sd_rj 65536 v5 ∧ kk (2 * t + c) = 2), wpY_match (fun r' v' => r' = 0 ∧ i_Rel (k + 7) (sc, oc, bt, bb, da, ag, lo, tp, sb, sd, tk, fw, fv, hv, sts, ops, opn, rg, kf, kk, th, ens, mv, mm, sps, ho, pb, pz, rc, mr, md, mt, gp, qc, qq, qe, lc, tq) v') (sc, oc, tl, tt, bt, ma, ol, tp, sb, sd, tk, dr, ay, gl, fw, fv, hv, ta, lk, go, ca, cv, cm, cg, opn, ow, oq, ox, rg, sw, sa, sz, sg, ho, kf, kk, ra, ac, ea, eb, ch, th, mv, mm, ty, bi, mk, rc, mr, md, mt, gp, yb, le, qc, qe, qq, tq, lc, gt) (nI t) (nI e) (nI c) v4 v5 := by
            intro w
            unfold wpY_match
            refine sy_ent1 ht he (fun y => absurd y z) (fun _ => sd_w1 (sy_in1 1 h (sd_w1 ?_)))
            rw [i2, nI_clamp (by omega)]
            refine ⟨vp_in_nI (by omega) (by decide), br_f nk0 (sy_word1 g (sd_w1 ⟨vp_in_nI (by omega) (by decide), ?_⟩))⟩
            rcases w with ⟨w1, w2⟩ | ⟨w1, w2⟩
            · exact nm_r w2 (br_f (by decide) (br_t rfl (sy_in0 16 w1 (sd_w0 ⟨rfl, J⟩))))
            · exact nm_r w2 (br_f (by decide) (br_f (by decide) (sy_in0 65535 w1 (sd_w0 ⟨rfl, J⟩))))
          have yes : ∀ (w : kk (2 * t + c) = 0 ∨ sd_rg 17 v5 ∧ kk (2 * t + c) = 1 ∨ sd_rg 65536 v5 ∧ kk (2 * t + c) = 2), wX_match_92 (fun r u' => wpY_match (fun r' v' => r' = r ∧ i_Rel (k + 7) u' v') (sc, oc, tl, tt, bt, ma, ol, tp, sb, sd, tk, dr, ay, gl, fw, fv, hv, ta, lk, go, ca, cv, cm, cg, opn, ow, oq, ox, rg, sw, sa, sz, sg, ho, kf, kk, ra, ac, ea, eb, ch, th, mv, mm, ty, bi, mk, rc, mr, md, mt, gp, yb, le, qc, qe, qq, tq, lc, gt) (nI t) (nI e) (nI c) v4 v5) (nI t) (nI e) (nI c) v4 v5 sc oc bt bb da ag lo tp sb sd tk fw fv hv sts ops opn rg kf kk th ens mv mm sps ho pb pz rc mr md mt gp qc qq qe lc tq := by
            intro w
            have hm : kk (2 * t + c) = 1 → sd_rg 17 v5 := by
              intro y
              rcases w with w | w | w
              · rw [y] at w; exact absurd w (by decide)
              · exact w.1
              · rw [y] at w; exact absurd w.2 (by decide)
            refine nm_r (sd_idx t e c) (sd_st (2 * (13 * t + e) + c) rfl (by omega) (by decide) (sd_st (2 * (13 * t + e) + c) rfl (by omega) (by decide) ?_))
            have fin : wY_match_82 (fun r' v' => r' = 1 ∧ i_Rel (k + 7) (sc, oc, bt, bb, da, ag, lo, tp, sb, sd, tk, fw, fv, hv, sts, ops, opn, rg, kf, kk, th, ens, (upd mv (2 * (13 * t + e) + c) v4), (upd mm (2 * (13 * t + e) + c) v5), sps, ho, pb, pz, rc, mr, md, mt, gp, qc, qq, qe, lc, tq) v') (nI t) (nI e) (nI c) v4 v5 sc oc tl tt bt ma ol tp sb sd tk dr ay gl fw fv hv ta lk go ca cv cm cg opn ow oq ox rg sw sa sz sg ho kf kk ra ac ea eb ch th mv mm ty bi mk rc mr md mt gp yb le qc qe qq tq lc gt :=
              sd_st (2 * (13 * t + e) + c) (sd_idy t e c) (by omega) (by decide) (sd_st (2 * (13 * t + e) + c) (sd_idy t e c) (by omega) (by decide) ⟨rfl, sd_mk hF hS hO (sd_Em hE ht he hc hm) hP hH hT hU hG hW hQ⟩)
            unfold wpY_match
            refine sy_ent1 ht he (fun y => absurd y z) (fun _ => sd_w1 (sy_in1 1 h (sd_w1 ?_)))
            rw [i2, nI_clamp (by omega)]
            refine ⟨vp_in_nI (by omega) (by decide), br_f nk0 (sy_word1 g (sd_w1 ⟨vp_in_nI (by omega) (by decide), ?_⟩))⟩
            rcases w with w | ⟨w1, w2⟩ | ⟨w1, w2⟩
            · exact nm_r w (br_t (by decide) fin)
            · exact nm_r w2 (br_f (by decide) (br_t rfl (sy_in1 16 w1 (sd_w1 fin))))
            · exact nm_r w2 (br_f (by decide) (br_f (by decide) (sy_in1 65535 w1 (sd_w1 fin))))
          obtain ⟨q, hq, kk1⟩ := kk1
          have : q = 0 ∨ q = 1 ∨ q = 2 := by omega
          rcases this with rfl | rfl | rfl
          · exact nm_r kk1 (br_f (by decide) (br_f (by decide) (yes (Or.inl kk1))))
          · rcases sd_cl 17 v5 with d | d
            · exact nm_r kk1 (br_t rfl (sx_CR 16 d (no (Or.inl ⟨d, kk1⟩))))
            · exact nm_r kk1 (br_t rfl (sx_CT 16 d (br_f (by decide) (yes (Or.inr (Or.inl ⟨d, kk1⟩))))))
          · rcases sd_cl 65536 v5 with d | d
            · exact nm_r kk1 (br_f (by decide) (br_t rfl (sx_word0 d (sd_w0 (no (Or.inr ⟨d, kk1⟩))))))
            · exact nm_r kk1 (br_f (by decide) (br_t rfl (sx_word1 d (sd_w1 (yes (Or.inr (Or.inr ⟨d, kk1⟩)))))))
theorem sd_lt1 {x : Int32} (h : ¬ x < 1) : ¬ x < 0 := by grind
theorem sy_in32 {post : Int32 → Prop} {p : Int32} (h0 : (p < 1 ∨ ¬ p ≤ 32) → post 0) (h1 : ∀ j : Nat, 1 ≤ j → j ≤ 32 → p = nI j → post 1) : wpY_in post p 1 32 := by
  refine br_c (fun z => h0 (Or.inl z)) (fun z => br_c (fun y => h0 (Or.inr (Int32.not_le.mpr y))) (fun y => ?_))
  obtain ⟨j, hj, rfl⟩ := nI_of (sd_lt1 z)
  have z' : ¬ nI j < nI 1 := z
  have y' : ¬ nI 32 < nI j := y
  rw [nI_ltI hj (by omega)] at z'
  rw [nI_ltI (by omega) hj] at y'
  exact h1 j (by omega) (by omega) rfl
theorem i_vc_set {k : Nat} {u : SX} {v : SY} (I : i_Rel k u v) (hk : k + 7 ≤ 3584) (v1 : Int32) (v2 : Int32) (v3 : Int32) (v4 : Int32) : wpX_set (fun r u' => wpY_set (fun r' v' => r' = r ∧ i_Rel (k + 7) u' v') v v1 v2 v3 v4) u v1 v2 v3 v4 := by
  refine sd_el (C := fun u v => wpX_set (fun r u' => wpY_set (fun r' v' => r' = r ∧ i_Rel (k + 7) u' v') v v1 v2 v3 v4) u v1 v2 v3 v4) I (fun sc oc bt bb da ag lo tp sb sd tk tl tt ma ol dr ay gl fw fv hv sts ops opn rg kf kk th ens mv mm sps ho pb pz rc mr md mt gp qc qq qe lc tq ta lk go ca cv cm cg ow oq ox sw sa sz sg ra ac ea eb ch ty bi mk yb le gt hF hS hO hE hP hH hT hU hG hW hQ => ?_)
  have J : i_Rel (k + 7) (sc, oc, bt, bb, da, ag, lo, tp, sb, sd, tk, fw, fv, hv, sts, ops, opn, rg, kf, kk, th, ens, mv, mm, sps, ho, pb, pz, rc, mr, md, mt, gp, qc, qq, qe, lc, tq) (sc, oc, tl, tt, bt, ma, ol, tp, sb, sd, tk, dr, ay, gl, fw, fv, hv, ta, lk, go, ca, cv, cm, cg, opn, ow, oq, ox, rg, sw, sa, sz, sg, ho, kf, kk, ra, ac, ea, eb, ch, th, mv, mm, ty, bi, mk, rc, mr, md, mt, gp, yb, le, qc, qe, qq, tq, lc, gt) := sd_mk hF hS hO hE hP hH hT hU hG hW hQ
  unfold wpX_set wpY_set
  rcases sd_cl 3 v1 with h | h
  · exact sx_BR 2 h (sy_in0 2 h (sd_w0 ⟨rfl, J⟩))
  · refine sx_BT 2 h ?_
    obtain ⟨w, hw, rfl⟩ := id h
    have : w = 0 ∨ w = 1 ∨ w = 2 := by omega
    rcases this with rfl | rfl | rfl
    · refine br_t rfl ?_
      unfold wpX_setMeter
      rcases sd_cl 4 v2 with a | a
      · exact sx_meter0 a (sd_w0 ⟨sd_n0, sy_in1 2 h (sd_w1 (sy_in0 3 a (sd_w0 ⟨rfl, J⟩)))⟩)
      · refine sx_meter1 a (sd_w1 ?_)
        rcases sd_cl 256 v3 with b | b
        · exact sx_BR 255 b ⟨sd_n0, sy_in1 2 h (sd_w1 (sy_in1 3 a (sd_w1 (br_t rfl (sy_in0 255 b (sd_w0 ⟨rfl, J⟩))))))⟩
        · rcases sd_cl 1001 v4 with c | c
          · exact sx_BT 255 b (sx_CR 1000 c ⟨sd_n0, sy_in1 2 h (sd_w1 (sy_in1 3 a (sd_w1 (br_t rfl (sy_in1 255 b (sd_w1 (sy_in0 1000 c (sd_w0 ⟨rfl, J⟩))))))))⟩)
          · refine sx_BT 255 b (sx_CT 1000 c ?_)
            obtain ⟨j, hj, rfl⟩ := id a
            refine sd_st j rfl hj (by decide) (sd_st j rfl hj (by decide) (sd_st j rfl hj (by decide) ⟨sd_n1, sy_in1 2 h (sd_w1 (sy_in1 3 a (sd_w1 (br_t rfl (sy_in1 255 b (sd_w1 (sy_in1 1000 c (sd_w1 ?_))))))))⟩))
            exact br_f (by decide) (br_f (by decide) (br_t rfl (sd_st j rfl hj (by decide) (sd_st j rfl hj (by decide) (sd_st j rfl hj (by decide) (br_f (by decide) (br_f (by decide) ⟨rfl, sd_mk hF hS hO hE hP hH hT hU hG hW hQ⟩)))))))
    · refine br_f (by decide) (br_t rfl ?_)
      rcases sd_cl 4 v2 with a | a
      · exact sx_AR 4 a ⟨sd_n0, sy_in1 2 h (sd_w1 (sy_in0 3 a (sd_w0 ⟨rfl, J⟩)))⟩
      · rcases sd_cl 16 v3 with b | b
        · exact sx_AT 4 a (sx_CR 15 b ⟨sd_n0, sy_in1 2 h (sd_w1 (sy_in1 3 a (sd_w1 (br_f (by decide) (br_t rfl (sy_in0 15 b (sd_w0 ⟨rfl, J⟩)))))))⟩)
        · obtain ⟨j, hj, rfl⟩ := id a
          exact sx_AT 4 a (sx_CT 15 b (sd_st j rfl hj (by decide) ⟨sd_n1, sy_in1 2 h (sd_w1 (sy_in1 3 a (sd_w1 (br_f (by decide) (br_t rfl (sy_in1 15 b (sd_w1 (br_f (by decide) (br_f (by decide) (br_t rfl (sd_st j rfl hj (by decide) (br_f (by decide) ⟨rfl, sd_mk hF hS hO hE hP hH hT hU hG hW hQ⟩))))))))))))⟩))
    · refine br_f (by decide) (br_f (by decide) (br_t rfl ?_))
      unfold wpX_setQuantum
      rcases sd_cl 4 v2 with a | a
      · exact sx_port0 a (sd_w0 ⟨sd_n0, sy_in1 2 h (sd_w1 (sy_in0 3 a (sd_w0 ⟨rfl, J⟩)))⟩)
      · refine sx_port1 a (sd_w1 ?_)
        rcases sd_cl 3 v3 with b | b
        · exact sx_AR 3 b ⟨sd_n0, sy_in1 2 h (sd_w1 (sy_in1 3 a (sd_w1 (br_f (by decide) (br_f (by decide) (br_t rfl (sy_in0 2 b (sd_w0 ⟨rfl, J⟩))))))))⟩
        · refine sx_AT 3 b ?_
          have no : (v4 < 1 ∨ ¬ v4 ≤ 32) → wpY_set (fun r' v' => r' = 0 ∧ i_Rel (k + 7) (sc, oc, bt, bb, da, ag, lo, tp, sb, sd, tk, fw, fv, hv, sts, ops, opn, rg, kf, kk, th, ens, mv, mm, sps, ho, pb, pz, rc, mr, md, mt, gp, qc, qq, qe, lc, tq) v') (sc, oc, tl, tt, bt, ma, ol, tp, sb, sd, tk, dr, ay, gl, fw, fv, hv, ta, lk, go, ca, cv, cm, cg, opn, ow, oq, ox, rg, sw, sa, sz, sg, ho, kf, kk, ra, ac, ea, eb, ch, th, mv, mm, ty, bi, mk, rc, mr, md, mt, gp, yb, le, qc, qe, qq, tq, lc, gt) (nI 2) v2 v3 v4 := by
            intro w
            unfold wpY_set
            refine sy_in1 2 h (sd_w1 (sy_in1 3 a (sd_w1 (br_f (by decide) (br_f (by decide) (br_t rfl (sy_in1 2 b (sd_w1 (sy_in32 (fun _ => sd_w0 ⟨rfl, J⟩) (fun j j1 j2 e => ?_))))))))))
            exfalso
            subst e
            rcases w with w | w
            · have w' : nI j < nI 1 := w
              rw [nI_ltI (by omega) (by omega)] at w'
              omega
            · exact w (nI_le (b := 32) j2 (by decide))
          refine br_c (fun z => ⟨sd_n0, no (Or.inl z)⟩) (fun z => br_c (fun y => ?_) (fun y => ⟨sd_n0, no (Or.inr y)⟩))
          obtain ⟨p, hp, rfl⟩ := id a
          obtain ⟨q, hq, rfl⟩ := id b
          refine sd_st (3 * p + q) ((sd_ma p 3 q).trans (by rw [Nat.mul_comm])) (by omega) (by decide) ⟨sd_n1, sy_in1 2 h (sd_w1 (sy_in1 3 a (sd_w1 (br_f (by decide) (br_f (by decide) (br_t rfl (sy_in1 2 b (sd_w1 (sy_in32 (fun w => ?_) (fun j j1 j2 e => sd_w1 ?_))))))))))⟩
          · rcases w with w | w
            · exact absurd w z
            · exact absurd y w
          · subst e
            refine br_f (by decide) (br_f (by decide) (br_t rfl (sd_st (3 * p + q) (sd_am p 3 q) (by omega) (by decide) ⟨rfl, sd_mk hF hS hO hE hP hH hT hU hG hW ⟨hQ.1, fun x hx => ?_, hQ.2.2⟩⟩)))
            by_cases e : x = 3 * p + q
            · subst e; rw [pk_us]; exact ⟨j, j1, j2, rfl⟩
            · rw [pk_un e]; exact hQ.2.1 x hx
def sd_tk (n : Int32) (mr md : Nat → Int32) : Nat → (Nat → Int32) → (Nat → Int32)
  | 0, a => a
  | i + 1, a => upd (sd_tk n mr md i a) i (if sd_tk n mr md i a i + n * mr i ≤ md i then sd_tk n mr md i a i + n * mr i else md i)
theorem sx_tick {post : Int32 → SX → Prop} {x1 : Int32} (h : post (tk + x1) (sc, oc, bt, bb, da, ag, lo, tp, sb, sd, (tk + x1), fw, fv, hv, sts, ops, opn, rg, kf, kk, th, ens, mv, mm, sps, ho, pb, pz, rc, mr, md, (sd_tk x1 mr md 4 mt), gp, qc, qq, qe, lc, tq)) : ∃ n, wX_tick_15 post x1 sc oc bt bb da ag lo tp sb sd tk n 0 fw fv hv sts ops opn rg kf kk th ens mv mm sps ho pb pz rc mr md mt gp qc qq qe lc tq :=
  sd_lp (fun n i s => wX_tick_15 post x1 sc oc bt bb da ag lo tp sb sd tk n (nI i) fw fv hv sts ops opn rg kf kk th ens mv mm sps ho pb pz rc mr md s gp qc qq qe lc tq) (fun i => sd_tk x1 mr md i mt) 4 0 (by omega) (fun n => br_t (nI_le (a := 4) (b := 4) (Nat.le_refl _) (by decide)) (nm_e h))
    (fun n i _ hi ih => br_f (nI_ge (b := 4) hi (by decide)) ⟨vp_in_nI hi (by decide), vp_in_nI hi (by decide), nm_e ⟨vp_in_nI hi (by decide), by
      rw [nI_clamp (by omega)]
      refine br_c (fun z => ⟨vp_in_nI hi (by decide), nm_r (e' := sd_tk x1 mr md (i + 1) mt) ?_ (nm_r (nI_1 i) ih)⟩) (fun z => ⟨vp_in_nI hi (by decide), vp_in_nI hi (by decide), nm_r (e' := sd_tk x1 mr md (i + 1) mt) ?_ (nm_r (nI_1 i) ih)⟩)
      · show _ = upd _ _ (if _ then _ else _)
        rw [if_pos z]
      · show _ = upd _ _ (if _ then _ else _)
        rw [if_neg z]⟩⟩)
theorem sy_tick {post : Int32 → SY → Prop} {x1 : Int32} (h : post (tk + x1) (sc, oc, tl, tt, bt, ma, ol, tp, sb, sd, (tk + x1), dr, ay, gl, fw, fv, hv, ta, lk, go, ca, cv, cm, cg, opn, ow, oq, ox, rg, sw, sa, sz, sg, ho, kf, kk, ra, ac, ea, eb, ch, th, mv, mm, ty, bi, mk, rc, mr, md, (sd_tk x1 mr md 4 mt), gp, yb, le, qc, qe, qq, tq, lc, gt)) : ∃ n, wY_tick_15 post x1 sc oc tl tt bt ma ol tp sb sd tk dr ay gl n 0 fw fv hv ta lk go ca cv cm cg opn ow oq ox rg sw sa sz sg ho kf kk ra ac ea eb ch th mv mm ty bi mk rc mr md mt gp yb le qc qe qq tq lc gt :=
  sd_lp (fun n i s => wY_tick_15 post x1 sc oc tl tt bt ma ol tp sb sd tk dr ay gl n (nI i) fw fv hv ta lk go ca cv cm cg opn ow oq ox rg sw sa sz sg ho kf kk ra ac ea eb ch th mv mm ty bi mk rc mr md s gp yb le qc qe qq tq lc gt) (fun i => sd_tk x1 mr md i mt) 4 0 (by omega) (fun n => br_t (nI_le (a := 4) (b := 4) (Nat.le_refl _) (by decide)) (nm_e h))
    (fun n i _ hi ih => br_f (nI_ge (b := 4) hi (by decide)) ⟨vp_in_nI hi (by decide), vp_in_nI hi (by decide), vp_in_nI hi (by decide), nm_e ⟨vp_in_nI hi (by decide), vp_in_nI hi (by decide), by
      rw [nI_clamp (by omega), pk_us]
      refine br_c (fun z => nm_r (nI_1 i) ?_) (fun z => ⟨vp_in_nI hi (by decide), vp_in_nI hi (by decide), nm_r (e' := sd_tk x1 mr md (i + 1) mt) ?_ (nm_r (nI_1 i) ih)⟩)
      · have e : upd (sd_tk x1 mr md i mt) i (sd_tk x1 mr md i mt i + x1 * mr i) = sd_tk x1 mr md (i + 1) mt := by
          show _ = upd _ _ (if _ then _ else _)
          rw [if_pos z]
        rw [e]
        exact ih
      · show _ = upd _ _ (if _ then _ else _)
        rw [if_neg z, sd_uu]⟩⟩)
theorem i_vc_tick {k : Nat} {u : SX} {v : SY} (I : i_Rel k u v) (hk : k + 7 ≤ 3584) (v1 : Int32) : wpX_tick (fun r u' => wpY_tick (fun r' v' => r' = r ∧ i_Rel (k + 7) u' v') v v1) u v1 := by
  refine sd_el (C := fun u v => wpX_tick (fun r u' => wpY_tick (fun r' v' => r' = r ∧ i_Rel (k + 7) u' v') v v1) u v1) I (fun sc oc bt bb da ag lo tp sb sd tk tl tt ma ol dr ay gl fw fv hv sts ops opn rg kf kk th ens mv mm sps ho pb pz rc mr md mt gp qc qq qe lc tq ta lk go ca cv cm cg ow oq ox sw sa sz sg ra ac ea eb ch ty bi mk yb le gt hF hS hO hE hP hH hT hU hG hW hQ => ?_)
  have J : i_Rel (k + 7) (sc, oc, bt, bb, da, ag, lo, tp, sb, sd, tk, fw, fv, hv, sts, ops, opn, rg, kf, kk, th, ens, mv, mm, sps, ho, pb, pz, rc, mr, md, mt, gp, qc, qq, qe, lc, tq) (sc, oc, tl, tt, bt, ma, ol, tp, sb, sd, tk, dr, ay, gl, fw, fv, hv, ta, lk, go, ca, cv, cm, cg, opn, ow, oq, ox, rg, sw, sa, sz, sg, ho, kf, kk, ra, ac, ea, eb, ch, th, mv, mm, ty, bi, mk, rc, mr, md, mt, gp, yb, le, qc, qe, qq, tq, lc, gt) := sd_mk hF hS hO hE hP hH hT hU hG hW hQ
  unfold wpX_tick wpY_tick
  rcases sd_cl 1001 v1 with h | h
  · exact sx_CR 1000 h (sy_in0 1000 h (sd_w0 ⟨rfl, J⟩))
  · exact sx_CT 1000 h (sx_tick (sy_in1 1000 h (sd_w1 (sy_tick ⟨rfl, sd_mk hF hS hO hE hP hH hT hU hG hW hQ⟩))))
end
