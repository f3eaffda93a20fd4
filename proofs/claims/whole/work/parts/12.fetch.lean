section
variable {sc oc bt bb da ag lo tp sb sd tk : Int32} {fw fv hv sts ops opn rg kf kk th ens mv mm sps ho pb pz rc mr md mt gp qc qq qe lc tq : Nat → Int32} {tl tt ma ol dr ay gl : Int32} {ta lk go ca cv cm cg ow oq ox sw sa sz sg ra ac ea eb ch ty bi mk yb le gt : Nat → Int32}
theorem sx_empty {post : Int32 → Prop} {p a b c : Nat} (hp : p < 4) (ha : a ≤ 4) (hb : b ≤ 4) (hc : c ≤ 4) (ea : qc (3 * p) = nI a) (eb : qc (3 * p + 1) = nI b) (ec : qc (3 * p + 2) = nI c) (h1 : a + b + c = 0 → post 1) (h0 : a + b + c ≠ 0 → post 0) : wpX_portIsEmpty post (sc, oc, bt, bb, da, ag, lo, tp, sb, sd, tk, fw, fv, hv, sts, ops, opn, rg, kf, kk, th, ens, mv, mm, sps, ho, pb, pz, rc, mr, md, mt, gp, qc, qq, qe, lc, tq) (nI p) := by
  have e0 : nI p * 3 + 0 = nI (3 * p) := (sd_ma p 3 0).trans (by rw [Nat.mul_comm]; rfl)
  have e1 : nI p * 3 + 1 = nI (3 * p + 1) := sd_3' p 1
  have e2 : nI p * 3 + 2 = nI (3 * p + 2) := sd_3' p 2
  refine ⟨4, br_f (by decide) ⟨?_, ?_⟩⟩
  · rw [e0]; exact vp_in_nI (by omega) (by decide)
  rw [e0, nI_clamp (by omega), ea]
  refine nm_r (e' := nI a) (by rw [Int32.zero_add]) (nm_r (e' := 1) (by decide) (br_f (by decide) ⟨?_, ?_⟩))
  · rw [e1]; exact vp_in_nI (by omega) (by decide)
  rw [e1, nI_clamp (by omega), eb]
  refine nm_r (nI_add a b) (nm_r (e' := 2) (by decide) (br_f (by decide) ⟨?_, ?_⟩))
  · rw [e2]; exact vp_in_nI (by omega) (by decide)
  rw [e2, nI_clamp (by omega), ec]
  exact nm_r (nI_add (a + b) c) (nm_r (e' := 3) (by decide) (br_t (by decide) (pk_eq (a + b + c) 0 h1 h0)))
theorem sd_Qt (hQ : sd_Q qq qe tq) {p c e : Nat} (hp : p < 4) (hc : c < 3) (ht : tq p = nI c) (he : e ≤ 51) : sd_Q qq (upd qe (3 * p + c) (nI e)) tq := by
  refine ⟨hQ.1, hQ.2.1, fun r hr d hd => ?_⟩
  by_cases z : 3 * r + d = 3 * p + c
  · have z1 : r = p := by omega
    have z2 : d = c := by omega
    subst z1 z2
    rw [pk_us]
    exact ⟨e, he, rfl, Or.inl ht⟩
  · rw [pk_un z]
    exact hQ.2.2 r hr d hd
theorem sd_Wt (hW : sd_W pb pz qc le yb) {q C : Nat} (hq : q < 12) (hC : C < 4) (hqc : qc q = nI (C + 1)) {pb' pz' : Nat → Int32} (hK : sd_K q C pb pz pb' pz') : sd_W pb' pz' (upd qc q (nI C)) (sd_sh le (4 * q) 1 C) (sd_sh yb (64 * q) 16 48) := by
  intro r hr
  by_cases z : r = q
  · subst z
    rw [pk_us]
    refine ⟨C, by omega, rfl, fun i hi => ?_⟩
    obtain ⟨C2, h1, h2, h3⟩ := hW r hr
    rw [hqc] at h2
    have h2' := (nI_eq (by omega) (by omega)).mp h2
    obtain ⟨L, g1, g2, g3, g4⟩ := h3 (i + 1) (by omega)
    have g2' : le (4 * r + i + 1) = nI L := g2
    have g3' : pz (r * 4 + i + 1) = nI L := g3
    have k := hK.2.1 i hi
    refine ⟨L, g1, ?_, k.1.trans g3', fun j hj => ?_⟩
    · rw [sd_shi (by omega) C i hi]
      exact g2'
    · rw [k.2 j (by rw [g3', nI_clamp (by omega)]; exact hj)]
      have e : 16 * (4 * r + i) + j = 64 * r + (16 * i + j) := by omega
      rw [e, sd_shi (by omega) 48 (16 * i + j) (by omega)]
      have e2 : 64 * r + (16 * i + j) + 16 = 16 * (4 * r + (i + 1)) + j := by omega
      rw [e2]
      exact g4 j hj
  · rw [pk_un z]
    obtain ⟨C2, h1, h2, h3⟩ := hW r hr
    refine ⟨C2, h1, h2, fun i hi => ?_⟩
    obtain ⟨L, g1, g2, g3, g4⟩ := h3 i hi
    have k := hK.2.2 (r * 4 + i) (by omega) (by omega)
    refine ⟨L, g1, ?_, k.1.trans g3, fun j hj => ?_⟩
    · rw [sd_sho C _ (by omega)]
      exact g2
    · rw [k.2 j (by omega), sd_sho 48 _ (by omega)]
      exact g4 j hj
theorem sd_Gt (hW : sd_W pb pz qc le yb) {q C L : Nat} (hq : q < 12) (hC : C < 4) (hqc : qc q = nI (C + 1)) (hL : L ≤ 16) (hle : le (4 * q) = nI L) {pb' pz' : Nat → Int32} (hK : sd_K q C pb pz pb' pz') : sd_G pb' pz' (nI L) (sd_gt yb q gt 16) := by
  obtain ⟨C2, h1, h2, h3⟩ := hW q hq
  rw [hqc] at h2
  have h2' := (nI_eq (by omega) (by omega)).mp h2
  obtain ⟨L2, g1, g2, g3, g4⟩ := h3 0 (by omega)
  have g2' : le (4 * q) = nI L2 := g2
  have g3' : pz (q * 4) = nI L2 := g3
  rw [hle] at g2'
  have e := (nI_eq (by omega) (by omega)).mp g2'
  subst e
  refine ⟨L, hL, rfl, hK.1.1.trans g3', fun j hj => ?_⟩
  rw [hK.1.2 j (by rw [g3', nI_clamp (by omega)]; exact hj), sd_gti 16 j (by omega)]
  have k := g4 j hj
  have e : 16 * (4 * q + 0) + j = 64 * q + j := by omega
  rw [e] at k
  exact k
theorem i_vc_fetch {k : Nat} {u : SX} {v : SY} (I : i_Rel k u v) (hk : k + 7 ≤ 3584) (v1 : Int32) : wpX_fetch (fun r u' => wpY_fetch (fun r' v' => r' = r ∧ i_Rel (k + 7) u' v') v v1) u v1 := by
  refine sd_el (C := fun u v => wpX_fetch (fun r u' => wpY_fetch (fun r' v' => r' = r ∧ i_Rel (k + 7) u' v') v v1) u v1) I (fun sc oc bt bb da ag lo tp sb sd tk tl tt ma ol dr ay gl fw fv hv sts ops opn rg kf kk th ens mv mm sps ho pb pz rc mr md mt gp qc qq qe lc tq ta lk go ca cv cm cg ow oq ox sw sa sz sg ra ac ea eb ch ty bi mk yb le gt hF hS hO hE hP hH hT hU hG hW hQ => ?_)
  have J : i_Rel (k + 7) (sc, oc, bt, bb, da, ag, lo, tp, sb, sd, tk, fw, fv, hv, sts, ops, opn, rg, kf, kk, th, ens, mv, mm, sps, ho, pb, pz, rc, mr, md, mt, gp, qc, qq, qe, lc, tq) (sc, oc, tl, tt, bt, ma, ol, tp, sb, sd, tk, dr, ay, gl, fw, fv, hv, ta, lk, go, ca, cv, cm, cg, opn, ow, oq, ox, rg, sw, sa, sz, sg, ho, kf, kk, ra, ac, ea, eb, ch, th, mv, mm, ty, bi, mk, rc, mr, md, mt, gp, yb, le, qc, qe, qq, tq, lc, gt) := sd_mk hF hS hO hE hP hH hT hU hG hW hQ
  unfold wpX_fetch wpY_fetch
  rcases sd_cl 4 v1 with h | h
  · exact sx_port0 h (sd_w0 (sy_in0 3 h (sd_w0 ⟨rfl, J⟩)))
  · obtain ⟨p, hp, rfl⟩ := id h
    refine sx_port1 h (sd_w1 ?_)
    obtain ⟨a, ha, e1, s1⟩ := hW (3 * p) (by omega)
    obtain ⟨b, hb, e2, s2⟩ := hW (3 * p + 1) (by omega)
    obtain ⟨c, hc, e3, s3⟩ := hW (3 * p + 2) (by omega)
    have y0 : 3 * nI p = nI (3 * p) := pk_mul 3 p
    have y1 : 3 * nI p + 1 = nI (3 * p + 1) := sd_3 p 1
    have y2 : 3 * nI p + 2 = nI (3 * p + 2) := sd_3 p 2
    refine sx_empty hp ha hb hc e1 e2 e3 (fun z => sd_w1 ?_) (fun z => sd_w0 ?_)
    · refine sy_in1 3 h (sd_w1 ?_)
      rw [y1, y2, y0, nI_clamp (n := 3 * p) (by omega), nI_clamp (n := 3 * p + 1) (by omega), nI_clamp (n := 3 * p + 2) (by omega), e1, e2, e3, nI_add, nI_add]
      exact ⟨vp_in_nI (by omega) (by decide), vp_in_nI (by omega) (by decide), vp_in_nI (by omega) (by decide), br_t (by rw [z]; rfl) ⟨rfl, J⟩⟩
    · have ex : ∃ cs C0 : Nat, cs < 3 ∧ C0 < 4 ∧ qc (3 * p + cs) = nI (C0 + 1) := by
        by_cases z1 : a = 0
        · by_cases z2 : b = 0
          · exact ⟨2, c - 1, by omega, by omega, by rw [e3]; congr 1; omega⟩
          · exact ⟨1, b - 1, by omega, by omega, by rw [e2]; congr 1; omega⟩
        · exact ⟨0, a - 1, by omega, by omega, by rw [Nat.add_zero, e1]; congr 1; omega⟩
      obtain ⟨cs, C0, hcs, hC0, hCs⟩ := ex
      obtain ⟨qe', tq', d, C, L, e, h1, h2, h3, h4, h5, h6, h7, h8, h9, h10, h11, h12⟩ := sd_fe (sc := sc) (oc := oc) (bt := bt) (bb := bb) (da := da) (ag := ag) (lo := lo) (tp := tp) (sb := sb) (sd := sd) (tk := tk) (tl := tl) (tt := tt) (ma := ma) (ol := ol) (dr := dr) (ay := ay) (gl := gl) (fw := fw) (fv := fv) (hv := hv) (sts := sts) (ops := ops) (opn := opn) (rg := rg) (kf := kf) (kk := kk) (th := th) (ens := ens) (mv := mv) (mm := mm) (sps := sps) (ho := ho) (rc := rc) (mr := mr) (md := md) (mt := mt) (gp := gp) (lc := lc) (ta := ta) (lk := lk) (go := go) (ca := ca) (cv := cv) (cm := cm) (cg := cg) (ow := ow) (oq := oq) (ox := ox) (sw := sw) (sa := sa) (sz := sz) (sg := sg) (ra := ra) (ac := ac) (ea := ea) (eb := eb) (ch := ch) (ty := ty) (bi := bi) (mk := mk) (gt := gt) hp hW hcs hC0 hCs 63 qe tq 0 (by omega) hQ (fun c' e' _ hc' _ he' => by
        by_cases z : c' = cs
        · rw [if_pos z]; omega
        · rw [if_neg z]; omega)
      refine ⟨64, h11 _ (fun pb' pz' hK => ?_)⟩
      refine sy_in1 3 h (sd_w1 ?_)
      rw [y1, y2, nI_clamp (n := 3 * p + 1) (by omega), nI_clamp (n := 3 * p + 2) (by omega)]
      have y00 : (3 * nI p).toNatClampNeg = 3 * p := by rw [y0]; exact nI_clamp (by omega)
      refine ⟨by rw [y0]; exact vp_in_nI (by omega) (by decide), vp_in_nI (by omega) (by decide), vp_in_nI (by omega) (by decide), ?_⟩
      rw [y00, e1, e2, e3, nI_add, nI_add]
      refine br_f (nI_ne0 (by omega) (by omega)) ⟨vp_in_nI hp (by decide), ?_⟩
      rw [nI_clamp (n := p) (by omega)]
      refine nm_e ⟨64, h12 _ ⟨rfl, ?_⟩⟩
      have k48 := hK.2.2 48 (by omega) (by omega)
      have k50 := hK.2.2 50 (by omega) (by omega)
      refine sd_mk hF hS hO hE hP hH ?_ ?_ (sd_Gt hW (by omega) (by omega) h8 h3 h9 hK) (sd_Wt hW (by omega) (by omega) h8 hK) (sd_Qt h6 hp h1 h7 (by omega))
      · obtain ⟨⟨T, t1, t2, t3⟩, t4⟩ := hT
        exact ⟨⟨T, t1, t2, k48.1.trans t3⟩, fun j hj => (k48.2 j hj).trans (t4 j hj)⟩
      · rcases hU with hU | ⟨u1, L', u2, u3, u4, u5⟩
        · exact Or.inl hU
        · exact Or.inr ⟨u1, L', u2, u3, k50.1.trans u4, fun j hj => (k50.2 j (by omega)).trans (u5 j hj)⟩
end
