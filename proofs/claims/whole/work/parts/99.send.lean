section
variable {sc oc bt bb da ag lo tp sb sd tk : Int32} {fw fv hv sts ops opn rg kf kk th ens mv mm sps ho pb pz rc mr md mt gp qc qq qe lc tq : Nat → Int32} {tl tt ma ol dr ay gl : Int32} {ta lk go ca cv cm cg ow oq ox sw sa sz sg ra ac ea eb ch ty bi mk yb le gt : Nat → Int32}
theorem i_vc_send {k : Nat} {u : SX} {v : SY} (I : i_Rel k u v) (hk : k + 7 ≤ 3584) (v1 : Int32) : wpX_send (fun r u' => wpY_send (fun r' v' => r' = r ∧ i_Rel (k + 7) u' v') v v1) u v1 := by
  refine sd_el (C := fun u v => wpX_send (fun r u' => wpY_send (fun r' v' => r' = r ∧ i_Rel (k + 7) u' v') v v1) u v1) I (fun sc oc bt bb da ag lo tp sb sd tk tl tt ma ol dr ay gl fw fv hv sts ops opn rg kf kk th ens mv mm sps ho pb pz rc mr md mt gp qc qq qe lc tq ta lk go ca cv cm cg ow oq ox sw sa sz sg ra ac ea eb ch ty bi mk yb le gt hF hS hO hE hP hH hT hU hG hW hQ => ?_)
  have J : i_Rel (k + 7) (sc, oc, bt, bb, da, ag, lo, tp, sb, sd, tk, fw, fv, hv, sts, ops, opn, rg, kf, kk, th, ens, mv, mm, sps, ho, pb, pz, rc, mr, md, mt, gp, qc, qq, qe, lc, tq) (sc, oc, tl, tt, bt, ma, ol, tp, sb, sd, tk, dr, ay, gl, fw, fv, hv, ta, lk, go, ca, cv, cm, cg, opn, ow, oq, ox, rg, sw, sa, sz, sg, ho, kf, kk, ra, ac, ea, eb, ch, th, mv, mm, ty, bi, mk, rc, mr, md, mt, gp, yb, le, qc, qe, qq, tq, lc, gt) := sd_mk hF hS hO hE hP hH hT hU hG hW hQ
  unfold wpX_send
  rcases sd_cl 65536 v1 with h | h
  · refine sx_word0 h (sd_w0 ?_)
    unfold wpY_send
    exact sy_word0 h (sd_w0 ⟨rfl, J⟩)
  · obtain ⟨w, hw, rfl⟩ := id h
    have hP' := hP
    have hH' := hH
    obtain ⟨N, hN, rfl, hA, hB⟩ := hP
    obtain ⟨R, hR, rfl, hho⟩ := hH
    obtain ⟨⟨T, hT1, rfl, hT2⟩, hT3⟩ := hT
    have bits : ∀ i, i < 8 * T → sd_tB ty bi (8 * T) i = sd_bv (sd_cp pb 48 49 T (784 + i / 8)) (i % 8) := by
      intro i hi
      have e : sd_cp pb 48 49 T (784 + i / 8) = pb (768 + i / 8) := sd_cpi (f := 48) (t := 49) (by omega) T hT1 (i / 8) (by omega)
      rw [sd_tBi _ i hi, e, hT3 (i / 8) (by omega)]
    obtain ⟨rr, bt', bb', da', ag', tp', sb', sd', tt', ma', dr', ay', fv', hv', rg', mt', ens', pb', pz', ch', bi', mk', s1, s2, s3, s4, s5, s6, s7, s8⟩ := sd_pr (lo := lo) (tk := tk) (fw := fw) (sts := sts) (ops := ops) (opn := opn) (kf := kf) (kk := kk) (th := th) (mv := mv) (mm := mm) (sps := sps) (ho := ho) (rc := rc) (mr := mr) (md := md) (gp := gp) (qc := qc) (qq := qq) (qe := qe) (lc := lc) (tq := tq) (tl := (nI T)) (ol := ol) (gl := gl) (ta := ta) (lk := lk) (go := go) (ca := ca) (cv := cv) (cm := cm) (cg := cg) (ow := ow) (oq := oq) (ox := ox) (sw := sw) (sa := sa) (sz := sz) (sg := sg) (ra := ra) (ac := ac) (ea := ea) (eb := eb) (ty := ty) (yb := yb) (le := le) (gt := gt) hS hO hA hB hN hR hho 3 0 T bt bb da ag 0 0 ma dr ay (sd_y24 fv (nI w) 4) hv rg mt ens (sd_cp pb 48 49 T) (upd pz 49 (nI T)) ch (sd_tB ty bi (8 * T)) mk (by omega) hT1 pk_us bits (sd_Fy hF hw 4 (by omega)) hE
    have fpb : ∀ j, (j < 784 ∨ 816 ≤ j) → pb' j = pb j := fun j hj => by rw [s4 j hj, sd_cpo T j (by omega)]
    have fpz : ∀ s, s ≠ 49 → s ≠ 50 → pz' s = pz s := fun s h49 h50 => by rw [s5 s h49 h50, pk_un h49]
    have hT' : sd_T pb' pz' (nI T) ty := ⟨⟨T, hT1, rfl, (fpz 48 (by omega) (by omega)).trans hT2⟩, fun j hj => (fpb _ (by omega)).trans (hT3 j hj)⟩
    have hG' : sd_G pb' pz' gl gt := by
      obtain ⟨G, h1, h2, h3, h4⟩ := hG
      exact ⟨G, h1, h2, (fpz 51 (by omega) (by omega)).trans h3, fun j hj => (fpb _ (by omega)).trans (h4 j hj)⟩
    have hW' : sd_W pb' pz' qc le yb := by
      intro q hq
      obtain ⟨C, h1, h2, h3⟩ := hW q hq
      refine ⟨C, h1, h2, fun i hi => ?_⟩
      obtain ⟨L, g1, g2, g3, g4⟩ := h3 i hi
      exact ⟨L, g1, g2, (fpz _ (by omega) (by omega)).trans g3, fun j hj => (fpb _ (by omega)).trans (g4 j hj)⟩
    -- Y from its beginning to the end of the passes
    have Y : ∀ post : Int32 → SY → Prop, (∀ m' : Nat, wY_send_119 post (m' + 1) (nI rr) (nI N) (nI R) (nI T) tt' bt' ma' ol tp' sb' sd' tk dr' ay' gl fw fv' hv' ta lk go ca cv cm cg opn ow oq ox rg' sw sa sz sg ho kf kk ra ac ea eb ch' th mv mm ty bi' mk' rc mr md mt' gp yb le qc qe qq tq lc gt) → wpY_send post ((nI N), (nI R), (nI T), tt, bt, ma, ol, tp, sb, sd, tk, dr, ay, gl, fw, fv, hv, ta, lk, go, ca, cv, cm, cg, opn, ow, oq, ox, rg, sw, sa, sz, sg, ho, kf, kk, ra, ac, ea, eb, ch, th, mv, mm, ty, bi, mk, rc, mr, md, mt, gp, yb, le, qc, qe, qq, tq, lc, gt) (nI w) :=
      fun post hp => sy_pre hT1 hw ⟨5, s8 post 5 (by omega) hp⟩
    refine sx_word1 h (sd_w1 (sx_s12 (fun n => br_t (by decide) (nm_e ?_))))
    rw [sd_zy]
    refine sx_copy (f := 48) (t := 49) (by omega) (by omega) hT1 hT2 ⟨5, s7 _ ?_⟩
    have r3 : vp_in (nI rr) 3 := vp_in_nI s1 (by decide)
    have n3 : ¬ nI rr = 3 := fun y => absurd ((nI_eq (a := rr) (b := 3) (by omega) (by omega)).mp y) (by omega)
    have rc0 : (nI rr).toNatClampNeg = rr := nI_clamp (by omega)
    by_cases z : rr = 0
    · subst z
      obtain ⟨L, hL, hm, hz50, hb50⟩ := s6 rfl
      subst hm
      obtain ⟨qc', lc', pb2, pz2, le', yb', d1, d2, d3, d4, d5⟩ := sd_deliver (sc := (nI N)) (oc := (nI R)) (bt := bt') (bb := bb') (da := da') (ag := ag') (lo := 1) (tp := tp') (sb := sb') (sd := sd') (tk := tk) (fw := fw) (fv := fv') (hv := hv') (sts := sts) (ops := ops) (opn := opn) (rg := rg') (kf := kf) (kk := kk) (th := th) (ens := ens') (mv := mv) (mm := mm) (sps := sps) (ho := ho) (pb := pb') (pz := pz') (rc := (upd rc 0 (rc 0 + 1))) (mr := mr) (md := md) (mt := mt') (gp := gp) (qc := qc) (qq := qq) (qe := qe) (lc := lc) (tq := tq) (tl := (nI T)) (tt := tt') (ma := (nI (8 * L))) (dr := dr') (ay := ay') (gl := gl) (ta := ta) (lk := lk) (go := go) (ca := ca) (cv := cv) (cm := cm) (cg := cg) (ow := ow) (oq := oq) (ox := ox) (sw := sw) (sa := sa) (sz := sz) (sg := sg) (ra := ra) (ac := ac) (ea := ea) (eb := eb) (ch := ch') (ty := ty) (bi := bi') (mk := mk') (yb := yb) (le := le) (gt := gt) s2 hW' hL hz50 hb50
      refine br_t rfl ⟨sd_n1, sd_f1, r3, r3, ?_⟩
      rw [rc0]
      refine nm_e (br_f sd_10 (d4 _ (Y _ (fun m' => br_f n3 ⟨r3, r3, ?_⟩))))
      rw [rc0]
      have e8 : nI (8 * L) / 8 = nI L := (pk_div (d := 8) (by omega) (by decide) (by decide)).trans (by congr 1; omega)
      refine nm_e (br_t rfl ⟨by decide, ?_⟩)
      rw [e8]
      refine br_t rfl (d5 _ ⟨rfl, sd_mk s2 hS hO s3 hP' hH' ?_ ?_ ?_ d1 hQ⟩)
      · obtain ⟨⟨T', t1, t2, t3⟩, t4⟩ := hT'
        exact ⟨⟨T', t1, t2, (d3 48 (by omega)).trans t3⟩, fun j hj => (d2 _ (by omega)).trans (t4 j hj)⟩
      · exact Or.inr ⟨rfl, L, hL, rfl, (d3 50 (by omega)).trans hz50, fun k hk => (d2 _ (by omega)).trans (hb50 k hk)⟩
      · obtain ⟨G, h1, h2, h3, h4⟩ := hG'
        exact ⟨G, h1, h2, (d3 51 (by omega)).trans h3, fun j hj => (d2 _ (by omega)).trans (h4 j hj)⟩
    · have n0 : ¬ nI rr = 0 := fun y => absurd ((nI_eq (a := rr) (b := 0) (by omega) (by omega)).mp y) z
      refine br_f n0 ⟨sd_n0, sd_f0, r3, r3, ?_⟩
      rw [rc0]
      refine nm_e (br_t rfl (Y _ (fun m' => br_f n3 ⟨r3, r3, ?_⟩)))
      rw [rc0]
      exact nm_e (br_f n0 (br_f n0 ⟨rfl, sd_mk s2 hS hO s3 hP' hH' hT' (Or.inl ⟨rfl, rfl⟩) hG' hW' hQ⟩))
end
