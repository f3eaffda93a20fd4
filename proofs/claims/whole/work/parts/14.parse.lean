section
variable {sc oc bt bb da ag lo tp sb sd tk : Int32} {fw fv hv sts ops opn rg kf kk th ens mv mm sps ho pb pz rc mr md mt gp qc qq qe lc tq : Nat → Int32} {tl tt ma ol dr ay gl : Int32} {ta lk go ca cv cm cg ow oq ox sw sa sz sg ra ac ea eb ch ty bi mk yb le gt : Nat → Int32}
/-- the goal of a state's r cases from c on -/
def sd_gg (cv cm cg : Nat → Int32) (x d : Int32) (b : Nat) : Nat → Nat → Int32
  | 0, _ => d
  | r + 1, c => if (x ^^^ cv (b + c)) &&& cm (b + c) = 0 then cg (b + c) else sd_gg cv cm cg x d b r (c + 1)
def sd_gf (lk go ca cv cm cg fv : Nat → Int32) (s : Nat) : Int32 :=
  if lk s = -1 then go s else sd_gg cv cm cg (fv (lk s).toNatClampNeg) (go s) (3 * s) (ca s).toNatClampNeg 0
theorem sd_ggr {x d : Int32} {b : Nat} (hd : sd_rg 10 d) (hc : ∀ c, c < 3 → sd_rg 10 (cg (b + c))) : ∀ r c, c + r ≤ 3 → sd_rg 10 (sd_gg cv cm cg x d b r c)
  | 0, c, _ => hd
  | r + 1, c, h => by
    show sd_rg 10 (if (x ^^^ cv (b + c)) &&& cm (b + c) = 0 then cg (b + c) else sd_gg cv cm cg x d b r (c + 1))
    by_cases z : (x ^^^ cv (b + c)) &&& cm (b + c) = 0
    · rw [if_pos z]; exact hc c (by omega)
    · rw [if_neg z]; exact sd_ggr hd hc r (c + 1) (by omega)
theorem sd_gfr (hS : sd_S sts ta lk go ca cv cm cg) {s : Nat} (hs : s < 8) : sd_rg 10 (sd_gf lk go ca cv cm cg fv s) := by
  obtain ⟨⟨h0, h1, h2, h3⟩, h4, h5, h6, ⟨n, hn, h7⟩, h8⟩ := hS s hs
  unfold sd_gf
  by_cases z : lk s = -1
  · rw [if_pos z]; exact h6
  · rw [if_neg z, h7, nI_clamp (by omega)]
    exact sd_ggr h6 (fun c hc => (h8 c hc).2.2.2) n 0 (by omega)
theorem sx_gg {post : Int32 → Prop} (hS : sd_S sts ta lk go ca cv cm cg) {s f N : Nat} (hs : s < 8) (hf : f < 28) (hN : N ≤ 3) : ∀ r c, c + r = N → post (sd_gg cv cm cg (fv f) (go s) (3 * s) r c) → wX_goalOf_36 post (nI (s * 13)) (nI f) (nI N) sc oc bt bb da ag lo tp sb sd tk fw fv hv sts ops opn rg kf kk th ens mv mm sps ho pb pz rc mr md mt gp qc qq qe lc tq (r + 1) (nI c)
  | 0, c, h, hp => by
    have e2 : nI (s * 13) + 2 = nI (s * 13 + 2) := nI_add _ 2
    refine br_t (nI_le (by omega) (by omega)) ?_
    rw [e2, nI_clamp (by omega), (hS s hs).1.2.2.1]
    exact ⟨vp_in_nI (by omega) (by decide), hp⟩
  | r + 1, c, h, hp => by
    have ec : nI (s * 13) + 4 + nI c * 3 = nI (s * 13 + 4 + c * 3) := by
      have e1 : nI (s * 13) + 4 = nI (s * 13 + 4) := nI_add _ 4
      have e2 : nI c * 3 = nI (c * 3) := pk_mul c 3
      rw [e1, e2, nI_add]
    have e1 : nI (s * 13 + 4 + c * 3) + 1 = nI (s * 13 + 4 + c * 3 + 1) := nI_add _ 1
    have e2 : nI (s * 13 + 4 + c * 3) + 2 = nI (s * 13 + 4 + c * 3 + 2) := nI_add _ 2
    obtain ⟨g1, g2, g3, g4⟩ := (hS s hs).2.2.2.2.2 c (by omega)
    refine br_f (nI_ge (by omega) (by omega)) (nm_r ec ?_)
    rw [e1, e2, nI_clamp (n := f) (by omega), nI_clamp (n := s * 13 + 4 + c * 3) (by omega), nI_clamp (n := s * 13 + 4 + c * 3 + 1) (by omega), nI_clamp (n := s * 13 + 4 + c * 3 + 2) (by omega), g1, g2, g3]
    refine ⟨vp_in_nI hf (by decide), vp_in_nI (by omega) (by decide), vp_in_nI (by omega) (by decide), br_c (fun z => ?_) (fun z => ?_)⟩
    · refine sd_w1 ⟨vp_in_nI (by omega) (by decide), ?_⟩
      have hp' : post (if (fv f ^^^ cv (3 * s + c)) &&& cm (3 * s + c) = 0 then cg (3 * s + c) else sd_gg cv cm cg (fv f) (go s) (3 * s) r (c + 1)) := hp
      rw [if_pos z] at hp'
      exact hp'
    · refine sd_w0 (nm_r (nI_1 c) (sx_gg hS hs hf hN r (c + 1) (by omega) ?_))
      have hp' : post (if (fv f ^^^ cv (3 * s + c)) &&& cm (3 * s + c) = 0 then cg (3 * s + c) else sd_gg cv cm cg (fv f) (go s) (3 * s) r (c + 1)) := hp
      rw [if_neg z] at hp'
      exact hp'
theorem sx_go {post : Int32 → Prop} (hS : sd_S sts ta lk go ca cv cm cg) {s : Nat} (hs : s < 8) (h : post (sd_gf lk go ca cv cm cg fv s)) : wpX_goalOf post (sc, oc, bt, bb, da, ag, lo, tp, sb, sd, tk, fw, fv, hv, sts, ops, opn, rg, kf, kk, th, ens, mv, mm, sps, ho, pb, pz, rc, mr, md, mt, gp, qc, qq, qe, lc, tq) (nI s) := by
  obtain ⟨⟨h0, h1, h2, h3⟩, h4, h5, h6, ⟨n, hn, h7⟩, h8⟩ := hS s hs
  refine nm_r (pk_mul s 13) ?_
  have e1 : nI (s * 13) + 1 = nI (s * 13 + 1) := nI_add _ 1
  have e3 : nI (s * 13) + 3 = nI (s * 13 + 3) := nI_add _ 3
  rw [e1, e3, nI_clamp (n := s * 13 + 1) (by omega), nI_clamp (n := s * 13 + 3) (by omega), h1, h3]
  refine ⟨vp_in_nI (by omega) (by decide), nm_e ?_⟩
  unfold sd_gf at h
  rcases h5 with h5 | ⟨f, hf, h5⟩
  · rw [if_pos h5] at h
    refine br_t h5 ⟨1, br_t (by decide) ?_⟩
    have e2 : nI (s * 13) + 2 = nI (s * 13 + 2) := nI_add _ 2
    rw [e2, nI_clamp (by omega), h2]
    exact ⟨vp_in_nI (by omega) (by decide), h⟩
  · have z : ¬ lk s = -1 := by rw [h5]; exact sd_ne (by omega)
    rw [if_neg z, h5, h7, nI_clamp (by omega), nI_clamp (by omega)] at h
    refine br_f z ⟨vp_in_nI (by omega) (by decide), ?_⟩
    rw [h5, h7]
    exact nm_e ⟨n + 1, sx_gg hS hs hf (by omega) n 0 (by omega) h⟩
theorem sy_gg {post : Int32 → SY → Prop} (hS : sd_S sts ta lk go ca cv cm cg) {s f N : Nat} (hs : s < 8) (hf : f < 28) (hN : N ≤ 3) (hl : lk s = nI f) (hn : ca s = nI N) : ∀ r c, c + r = N → post (sd_gg cv cm cg (fv f) (go s) (3 * s) r c) (sc, oc, tl, tt, bt, ma, ol, tp, sb, sd, tk, dr, ay, gl, fw, fv, hv, ta, lk, go, ca, cv, cm, cg, opn, ow, oq, ox, rg, sw, sa, sz, sg, ho, kf, kk, ra, ac, ea, eb, ch, th, mv, mm, ty, bi, mk, rc, mr, md, mt, gp, yb, le, qc, qe, qq, tq, lc, gt) → wY_enter_39 post (nI s) sc oc tl tt bt ma ol tp sb sd tk dr ay gl fw fv hv ta lk go ca cv cm cg opn ow oq ox rg sw sa sz sg ho kf kk ra ac ea eb ch th mv mm ty bi mk rc mr md mt gp yb le qc qe qq tq lc gt (r + 1) (nI (3 * s + c))
  | 0, c, h, hp => by
    have e3 : 3 * nI s + nI N = nI (3 * s + N) := sd_am s 3 N
    refine ⟨vp_in_nI hs (by decide), ?_⟩
    rw [nI_clamp (n := s) (by omega), hn, e3]
    exact br_t (nI_le (by omega) (by omega)) ⟨vp_in_nI hs (by decide), hp⟩
  | r + 1, c, h, hp => by
    have e3 : 3 * nI s + nI N = nI (3 * s + N) := sd_am s 3 N
    refine ⟨vp_in_nI hs (by decide), ?_⟩
    rw [nI_clamp (n := s) (by omega), hn, e3, hl, nI_clamp (n := f) (by omega), nI_clamp (n := 3 * s + c) (by omega)]
    refine br_f (nI_ge (by omega) (by omega)) ⟨vp_in_nI hs (by decide), br_f (nI_pos (by omega)) ⟨vp_in_nI hs (by decide), vp_in_nI hf (by decide), vp_in_nI (by omega) (by decide), vp_in_nI (by omega) (by decide), br_c (fun z => ⟨vp_in_nI (by omega) (by decide), ?_⟩) (fun z => nm_r (nI_1 _) (sy_gg hS hs hf hN hl hn r (c + 1) (by omega) ?_))⟩⟩
    · have hp' : post (if (fv f ^^^ cv (3 * s + c)) &&& cm (3 * s + c) = 0 then cg (3 * s + c) else sd_gg cv cm cg (fv f) (go s) (3 * s) r (c + 1)) (sc, oc, tl, tt, bt, ma, ol, tp, sb, sd, tk, dr, ay, gl, fw, fv, hv, ta, lk, go, ca, cv, cm, cg, opn, ow, oq, ox, rg, sw, sa, sz, sg, ho, kf, kk, ra, ac, ea, eb, ch, th, mv, mm, ty, bi, mk, rc, mr, md, mt, gp, yb, le, qc, qe, qq, tq, lc, gt) := hp
      rw [if_pos z] at hp'
      exact hp'
    · have hp' : post (if (fv f ^^^ cv (3 * s + c)) &&& cm (3 * s + c) = 0 then cg (3 * s + c) else sd_gg cv cm cg (fv f) (go s) (3 * s) r (c + 1)) (sc, oc, tl, tt, bt, ma, ol, tp, sb, sd, tk, dr, ay, gl, fw, fv, hv, ta, lk, go, ca, cv, cm, cg, opn, ow, oq, ox, rg, sw, sa, sz, sg, ho, kf, kk, ra, ac, ea, eb, ch, th, mv, mm, ty, bi, mk, rc, mr, md, mt, gp, yb, le, qc, qe, qq, tq, lc, gt) := hp
      rw [if_neg z] at hp'
      exact hp'
theorem sy_go {post : Int32 → SY → Prop} (hS : sd_S sts ta lk go ca cv cm cg) {s : Nat} (hs : s < 8) (h : post (sd_gf lk go ca cv cm cg fv s) (sc, oc, tl, tt, bt, ma, ol, tp, sb, sd, tk, dr, ay, gl, fw, fv, hv, ta, lk, go, ca, cv, cm, cg, opn, ow, oq, ox, rg, sw, sa, sz, sg, ho, kf, kk, ra, ac, ea, eb, ch, th, mv, mm, ty, bi, mk, rc, mr, md, mt, gp, yb, le, qc, qe, qq, tq, lc, gt)) : ∃ n, wY_enter_39 post (nI s) sc oc tl tt bt ma ol tp sb sd tk dr ay gl fw fv hv ta lk go ca cv cm cg opn ow oq ox rg sw sa sz sg ho kf kk ra ac ea eb ch th mv mm ty bi mk rc mr md mt gp yb le qc qe qq tq lc gt n (nI (3 * s)) := by
  obtain ⟨⟨h0, h1, h2, h3⟩, h4, h5, h6, ⟨n, hn, h7⟩, h8⟩ := hS s hs
  unfold sd_gf at h
  rcases h5 with h5 | ⟨f, hf, h5⟩
  · rw [if_pos h5] at h
    refine ⟨1, vp_in_nI hs (by decide), ?_⟩
    rw [nI_clamp (n := s) (by omega)]
    refine br_c (fun _ => ⟨vp_in_nI hs (by decide), h⟩) (fun _ => ⟨vp_in_nI hs (by decide), br_t ?_ ⟨vp_in_nI hs (by decide), h⟩⟩)
    rw [h5]; decide
  · have z : ¬ lk s = -1 := by rw [h5]; exact sd_ne (by omega)
    rw [if_neg z, h5, h7, nI_clamp (by omega), nI_clamp (by omega)] at h
    exact ⟨n + 1, sy_gg hS hs hf (by omega) h5 h7 n 0 (by omega) h⟩
theorem sd_tfo {h b f : Nat} (hh : h < 6) (hf : 24 ≤ f) : ∀ i, i ≤ 4 → sd_tf fw bi fv h b i f = fv f
  | 0, _ => rfl
  | i + 1, hi => by
    show upd (sd_tf fw bi fv h b i) (4 * h + i) _ f = _
    rw [pk_un (by omega)]
    exact sd_tfo hh hf i (by omega)
/-- the way through the states, both sides at once -/
theorem sd_pl (hS : sd_S sts ta lk go ca cv cm cg) {Z : Nat} (hZ : Z ≤ 16) (hz : pz 49 = nI Z) (hB : ∀ i, i < 8 * Z → bi i = sd_bv (pb (784 + i / 8)) (i % 8)) :
    ∀ (d g b c : Nat) (sb : Int32) (fv hv : Nat → Int32), c + d = 12 → g < 10 → b ≤ 8 * Z → sd_F fw fv hv →
    ∃ (r sb' : Int32) (b' : Nat) (fv' hv' : Nat → Int32), (r = 0 ∨ r = 1) ∧ b' ≤ 8 * Z ∧ sd_F fw fv' hv' ∧ (∀ f, 24 ≤ f → fv' f = fv f) ∧
    (∀ post : Int32 → SX → Prop, post r (sc, oc, (nI b'), bb, da, ag, lo, tp, sb', sd, tk, fw, fv', hv', sts, ops, opn, rg, kf, kk, th, ens, mv, mm, sps, ho, pb, pz, rc, mr, md, mt, gp, qc, qq, qe, lc, tq) → wX_parsePacket_61 post (d + 1) (nI g) (nI c) sc oc (nI b) bb da ag lo tp sb sd tk fw fv hv sts ops opn rg kf kk th ens mv mm sps ho pb pz rc mr md mt gp qc qq qe lc tq) ∧
    (∀ post : Int32 → SY → Prop, post r (sc, oc, tl, (nI (8 * Z)), (nI b'), ma, ol, tp, sb', sd, tk, dr, ay, gl, fw, fv', hv', ta, lk, go, ca, cv, cm, cg, opn, ow, oq, ox, rg, sw, sa, sz, sg, ho, kf, kk, ra, ac, ea, eb, ch, th, mv, mm, ty, bi, mk, rc, mr, md, mt, gp, yb, le, qc, qe, qq, tq, lc, gt) → wY_parse_61 post (d + 1) (nI g) (nI c) sc oc tl (nI (8 * Z)) (nI b) ma ol tp sb sd tk dr ay gl fw fv hv ta lk go ca cv cm cg opn ow oq ox rg sw sa sz sg ho kf kk ra ac ea eb ch th mv mm ty bi mk rc mr md mt gp yb le qc qe qq tq lc gt) := by
  have stop : ∀ (n g b c : Nat) (sb : Int32) (fv hv : Nat → Int32), (12 ≤ c ∧ c < 100 ∨ 8 ≤ g) → g < 10 → c < 100 → sd_F fw fv hv → b ≤ 8 * Z →
    ∃ (r sb' : Int32) (b' : Nat) (fv' hv' : Nat → Int32), (r = 0 ∨ r = 1) ∧ b' ≤ 8 * Z ∧ sd_F fw fv' hv' ∧ (∀ f, 24 ≤ f → fv' f = fv f) ∧
    (∀ post : Int32 → SX → Prop, post r (sc, oc, (nI b'), bb, da, ag, lo, tp, sb', sd, tk, fw, fv', hv', sts, ops, opn, rg, kf, kk, th, ens, mv, mm, sps, ho, pb, pz, rc, mr, md, mt, gp, qc, qq, qe, lc, tq) → wX_parsePacket_61 post (n + 1) (nI g) (nI c) sc oc (nI b) bb da ag lo tp sb sd tk fw fv hv sts ops opn rg kf kk th ens mv mm sps ho pb pz rc mr md mt gp qc qq qe lc tq) ∧
    (∀ post : Int32 → SY → Prop, post r (sc, oc, tl, (nI (8 * Z)), (nI b'), ma, ol, tp, sb', sd, tk, dr, ay, gl, fw, fv', hv', ta, lk, go, ca, cv, cm, cg, opn, ow, oq, ox, rg, sw, sa, sz, sg, ho, kf, kk, ra, ac, ea, eb, ch, th, mv, mm, ty, bi, mk, rc, mr, md, mt, gp, yb, le, qc, qe, qq, tq, lc, gt) → wY_parse_61 post (n + 1) (nI g) (nI c) sc oc tl (nI (8 * Z)) (nI b) ma ol tp sb sd tk dr ay gl fw fv hv ta lk go ca cv cm cg opn ow oq ox rg sw sa sz sg ho kf kk ra ac ea eb ch th mv mm ty bi mk rc mr md mt gp yb le qc qe qq tq lc gt) := by
    intro n g b c sb fv hv hc hg hc2 hF hb
    by_cases g8 : g = 8
    · refine ⟨1, sb, b, fv, hv, Or.inr rfl, hb, hF, fun _ _ => rfl, fun post hp => ?_, fun post hp => ?_⟩
      · exact br_c (fun _ => br_t (by rw [g8]; rfl) hp) (fun _ => br_t (by rw [g8]; decide) (br_t (by rw [g8]; rfl) hp))
      · exact br_c (fun _ => br_t (by rw [g8]; rfl) hp) (fun _ => br_t (by rw [g8]; decide) (br_t (by rw [g8]; rfl) hp))
    · have n8 : ¬ nI g = 8 := fun z => g8 ((nI_eq (a := g) (b := 8) (by omega) (by omega)).mp z)
      refine ⟨0, sb, b, fv, hv, Or.inl rfl, hb, hF, fun _ _ => rfl, fun post hp => ?_, fun post hp => ?_⟩
      · exact pk_le 12 c (fun _ => br_f n8 hp) (fun z => br_t (nI_le (a := 8) (by omega) (by omega)) (br_f n8 hp))
      · exact pk_le 12 c (fun _ => br_f n8 hp) (fun z => br_t (nI_le (a := 8) (by omega) (by omega)) (br_f n8 hp))
  intro d
  induction d with
  | zero =>
    intro g b c sb fv hv hc hg hb hF
    exact stop 0 g b c sb fv hv (by omega) hg (by omega) hF hb
  | succ d ih =>
    intro g b c sb fv hv hc hg hb hF
    by_cases g8 : 8 ≤ g
    · exact stop (d + 1) g b c sb fv hv (by omega) hg (by omega) hF hb
    · have hS' := hS g (by omega)
      have c12 : ¬ 12 ≤ nI c := nI_ge (b := 12) (by omega) (by omega)
      have g88 : ¬ 8 ≤ nI g := nI_ge (b := 8) (by omega) (by omega)
      have e0 : nI g * 13 + 0 = nI (g * 13 + 0) := sd_ma g 13 0
      have e3 : 3 * nI g = nI (3 * g) := pk_mul 3 g
      rcases hS'.2.1 with t | ⟨h, hh, t⟩
      · obtain ⟨g', hg', eg⟩ := sd_gfr (fv := fv) hS (s := g) (by omega)
        obtain ⟨r, sb', b', fv', hv', k1, k2, k3, k4, k5, k6⟩ := ih g' b (c + 1) (sb + 1) fv hv (by omega) hg' hb hF
        refine ⟨r, sb', b', fv', hv', k1, k2, k3, k4, fun post hp => ?_, fun post hp => ?_⟩
        · refine br_f c12 (br_f g88 (nm_e ?_))
          rw [e0, nI_clamp (n := g * 13 + 0) (by omega), hS'.1.1, t]
          refine ⟨vp_in_nI (by omega) (by decide), br_t rfl (sd_w1 (sx_go hS (by omega) (nm_r (nI_1 c) ?_)))⟩
          rw [eg]
          exact k5 post hp
        · refine br_f c12 (br_f g88 (nm_e ⟨vp_in_nI (by omega) (by decide), ?_⟩))
          rw [nI_clamp (n := g) (by omega), t]
          refine br_t (by decide) (nm_r e3 (sy_go hS (by omega) (nm_r (nI_1 c) ?_)))
          rw [eg]
          exact k6 post hp
      · have tn : ¬ ta g < 0 := by rw [t]; exact nI_pos (by omega)
        by_cases z : b + sd_tb fw h 0 4 ≤ 8 * Z
        · obtain ⟨g', hg', eg⟩ := sd_gfr (fv := sd_tf fw bi fv h b 4) hS (s := g) (by omega)
          obtain ⟨r, sb', b', fv', hv', k1, k2, k3, k4, k5, k6⟩ := ih g' (b + sd_tb fw h 0 4) (c + 1) (sb + 1) (sd_tf fw bi fv h b 4) (upd hv h 1) (by omega) hg' z (sd_Fh (sd_Ftf hF hh 4 (by omega)) (Or.inr rfl))
          refine ⟨r, sb', b', fv', hv', k1, k2, k3, fun f hf => ?_, fun post hp => ?_, fun post hp => ?_⟩
          · rw [k4 f hf]
            exact sd_tfo hh hf 4 (by omega)
          · refine br_f c12 (br_f g88 (nm_e ?_))
            rw [e0, nI_clamp (n := g * 13 + 0) (by omega), hS'.1.1, t]
            refine ⟨vp_in_nI (by omega) (by decide), sx_th hF hh hZ hz hB hb (fun _ => sd_w1 (sx_go hS (by omega) (nm_r (nI_1 c) ?_))) (fun y => absurd z y)⟩
            rw [eg]
            exact k5 post hp
          · refine br_f c12 (br_f g88 (nm_e ⟨vp_in_nI (by omega) (by decide), ?_⟩))
            rw [nI_clamp (n := g) (by omega)]
            refine br_f tn ⟨vp_in_nI (by omega) (by decide), ?_⟩
            rw [t]
            refine sy_th hF hh hZ hb (fun _ => sd_w1 (nm_r e3 (sy_go hS (by omega) (nm_r (nI_1 c) ?_)))) (fun y => absurd z y)
            rw [eg]
            exact k6 post hp
        · obtain ⟨r, sb', b', fv', hv', k1, k2, k3, k4, k5, k6⟩ := ih 9 b (c + 1) (sb + 1) fv hv (by omega) (by omega) hb hF
          refine ⟨r, sb', b', fv', hv', k1, k2, k3, k4, fun post hp => ?_, fun post hp => ?_⟩
          · refine br_f c12 (br_f g88 (nm_e ?_))
            rw [e0, nI_clamp (n := g * 13 + 0) (by omega), hS'.1.1, t]
            exact ⟨vp_in_nI (by omega) (by decide), sx_th hF hh hZ hz hB hb (fun y => absurd y z) (fun _ => sd_w0 (nm_r (nI_1 c) (k5 post hp)))⟩
          · refine br_f c12 (br_f g88 (nm_e ⟨vp_in_nI (by omega) (by decide), ?_⟩))
            rw [nI_clamp (n := g) (by omega)]
            refine br_f tn ⟨vp_in_nI (by omega) (by decide), ?_⟩
            rw [t]
            exact sy_th hF hh hZ hb (fun y => absurd y z) (fun _ => sd_w0 (nm_r (nI_1 c) (k6 post hp)))
/-- the first i cells are 0 -/
def sd_ze (a : Nat → Int32) : Nat → (Nat → Int32)
  | 0 => a
  | i + 1 => upd (sd_ze a i) i 0
theorem sd_zei {a : Nat → Int32} : ∀ i j, j < i → sd_ze a i j = 0
  | 0, j, h => absurd h (by omega)
  | i + 1, j, h => by
    show upd (sd_ze a i) i 0 j = 0
    by_cases e : j = i
    · subst e; rw [pk_us]
    · rw [pk_un e]; exact sd_zei i j (by omega)
theorem sd_zeo {a : Nat → Int32} : ∀ i j, i ≤ j → sd_ze a i j = a j
  | 0, j, h => rfl
  | i + 1, j, h => by
    show upd (sd_ze a i) i 0 j = _
    rw [pk_un (by omega)]; exact sd_zeo i j (by omega)
theorem sd_Fz (hF : sd_F fw fv hv) : sd_F fw (sd_ze fv 24) (sd_ze hv 6) := by
  refine ⟨fun f hf => ?_, hF.2.1, fun h hh => Or.inl (sd_zei 6 h hh)⟩
  obtain ⟨a, b, h1, h2, h3, h4⟩ := hF.1 f hf
  by_cases z : f < 24
  · exact ⟨a, 0, h1, Nat.pos_of_ne_zero (by simp), h3, sd_zei 24 f z⟩
  · exact ⟨a, b, h1, h2, h3, by rw [sd_zeo 24 f (by omega)]; exact h4⟩
/-- parsing, both sides at once -/
theorem sd_parse (hF : sd_F fw fv hv) (hS : sd_S sts ta lk go ca cv cm cg) {Z : Nat} (hZ : Z ≤ 16) (hz : pz 49 = nI Z) (hB : ∀ i, i < 8 * Z → bi i = sd_bv (pb (784 + i / 8)) (i % 8)) :
    ∃ (r sb' : Int32) (b' : Nat) (fv' hv' : Nat → Int32), (r = 0 ∨ r = 1) ∧ b' ≤ 8 * Z ∧ sd_F fw fv' hv' ∧ (∀ f, 24 ≤ f → fv' f = fv f) ∧
    (∀ post : Int32 → SX → Prop, post r (sc, oc, (nI b'), bb, da, ag, lo, (tp + 1), sb', sd, tk, fw, fv', hv', sts, ops, opn, rg, kf, kk, th, ens, mv, mm, sps, ho, pb, pz, rc, mr, md, mt, gp, qc, qq, qe, lc, tq) → wpX_parsePacket post (sc, oc, bt, bb, da, ag, lo, tp, sb, sd, tk, fw, fv, hv, sts, ops, opn, rg, kf, kk, th, ens, mv, mm, sps, ho, pb, pz, rc, mr, md, mt, gp, qc, qq, qe, lc, tq)) ∧
    (∀ post : Int32 → SY → Prop, post r (sc, oc, tl, (nI (8 * Z)), (nI b'), ma, ol, (tp + 1), sb', sd, tk, dr, ay, gl, fw, fv', hv', ta, lk, go, ca, cv, cm, cg, opn, ow, oq, ox, rg, sw, sa, sz, sg, ho, kf, kk, ra, ac, ea, eb, ch, th, mv, mm, ty, bi, mk, rc, mr, md, mt, gp, yb, le, qc, qe, qq, tq, lc, gt) → wpY_parse post (sc, oc, tl, (nI (8 * Z)), bt, ma, ol, tp, sb, sd, tk, dr, ay, gl, fw, fv, hv, ta, lk, go, ca, cv, cm, cg, opn, ow, oq, ox, rg, sw, sa, sz, sg, ho, kf, kk, ra, ac, ea, eb, ch, th, mv, mm, ty, bi, mk, rc, mr, md, mt, gp, yb, le, qc, qe, qq, tq, lc, gt)) := by
  obtain ⟨r, sb', b', fv', hv', k1, k2, k3, k4, k5, k6⟩ := sd_pl (sc := sc) (oc := oc) (bb := bb) (da := da) (ag := ag) (lo := lo) (tp := (tp + 1)) (sd := sd) (tk := tk) (fw := fw) (sts := sts) (ops := ops) (opn := opn) (rg := rg) (kf := kf) (kk := kk) (th := th) (ens := ens) (mv := mv) (mm := mm) (sps := sps) (ho := ho) (pb := pb) (pz := pz) (rc := rc) (mr := mr) (md := md) (mt := mt) (gp := gp) (qc := qc) (qq := qq) (qe := qe) (lc := lc) (tq := tq) (tl := tl) (ma := ma) (ol := ol) (dr := dr) (ay := ay) (gl := gl) (ta := ta) (lk := lk) (go := go) (ca := ca) (cv := cv) (cm := cm) (cg := cg) (ow := ow) (oq := oq) (ox := ox) (sw := sw) (sa := sa) (sz := sz) (sg := sg) (ra := ra) (ac := ac) (ea := ea) (eb := eb) (ch := ch) (ty := ty) (bi := bi) (mk := mk) (yb := yb) (le := le) (gt := gt) hS hZ hz hB 12 0 0 0 sb (sd_ze fv 24) (sd_ze hv 6) (by omega) (by omega) (by omega) (sd_Fz hF)
  refine ⟨r, sb', b', fv', hv', k1, k2, k3, fun f hf => (k4 f hf).trans (sd_zeo 24 f hf), fun post hp => ?_, fun post hp => ?_⟩
  · refine nm_e ?_
    refine sd_lp (fun n i s => wX_parsePacket_17 post sc oc 0 bb da ag lo (tp + 1) sb sd tk n (nI i) fw s hv sts ops opn rg kf kk th ens mv mm sps ho pb pz rc mr md mt gp qc qq qe lc tq) (fun i => sd_ze fv i) 24 0 (by omega) (fun n => br_t (nI_le (a := 24) (b := 24) (Nat.le_refl _) (by omega)) ?_)
      (fun n i _ hi ih => br_f (nI_ge (b := 24) hi (by omega)) (sd_st i rfl (by omega) (by decide) (nm_r (nI_1 i) ih)))
    refine sd_lp (fun n i s => wX_parsePacket_38 post sc oc 0 bb da ag lo (tp + 1) sb sd tk n (nI i) fw (sd_ze fv 24) s sts ops opn rg kf kk th ens mv mm sps ho pb pz rc mr md mt gp qc qq qe lc tq) (fun i => sd_ze hv i) 6 0 (by omega) (fun n => br_t (nI_le (a := 6) (b := 6) (Nat.le_refl _) (by omega)) ⟨13, k5 post hp⟩)
      (fun n i _ hi ih => br_f (nI_ge (b := 6) hi (by omega)) (sd_st i rfl (by omega) (by decide) (by rw [sd_b0]; exact nm_r (nI_1 i) ih)))
  · refine sd_lp (fun n i s => wY_parse_2 post sc oc tl (nI (8 * Z)) bt ma ol tp sb sd tk dr ay gl n (nI i) fw fv s ta lk go ca cv cm cg opn ow oq ox rg sw sa sz sg ho kf kk ra ac ea eb ch th mv mm ty bi mk rc mr md mt gp yb le qc qe qq tq lc gt) (fun i => sd_ze hv i) 6 0 (by omega) (fun n => br_t (nI_le (a := 6) (b := 6) (Nat.le_refl _) (by omega)) ?_)
      (fun n i _ hi ih => br_f (nI_ge (b := 6) hi (by omega)) (sd_st i rfl (by omega) (by decide) (by rw [sd_b0]; exact nm_r (nI_1 i) ih)))
    refine sd_lp (fun n i s => wY_parse_23 post sc oc tl (nI (8 * Z)) bt ma ol tp sb sd tk dr ay gl n (nI i) fw s (sd_ze hv 6) ta lk go ca cv cm cg opn ow oq ox rg sw sa sz sg ho kf kk ra ac ea eb ch th mv mm ty bi mk rc mr md mt gp yb le qc qe qq tq lc gt) (fun i => sd_ze fv i) 24 0 (by omega) (fun n => br_t (nI_le (a := 24) (b := 24) (Nat.le_refl _) (by omega)) (nm_e ⟨13, k6 post hp⟩))
      (fun n i _ hi ih => br_f (nI_ge (b := 24) hi (by omega)) (sd_st i rfl (by omega) (by decide) (nm_r (nI_1 i) ih)))
end
