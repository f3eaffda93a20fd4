section
variable {sc oc bt bb da ag lo tp sb sd tk : Int32} {fw fv hv sts ops opn rg kf kk th ens mv mm sps ho pb pz rc mr md mt gp qc qq qe lc tq : Nat → Int32} {tl tt ma ol dr ay gl : Int32} {ta lk go ca cv cm cg ow oq ox sw sa sz sg ra ac ea eb ch ty bi mk yb le gt : Nat → Int32}
theorem sx_app {post : SX → Prop} {B : Nat} {y : Bool} (hB : B < 1000) (h : post (sc, oc, bt, (nI (B + 1)), da, ag, lo, tp, sb, sd, tk, fw, fv, hv, sts, ops, opn, rg, kf, kk, th, ens, mv, mm, sps, ho, (sd_ap pb B y), pz, rc, mr, md, mt, gp, qc, qq, qe, lc, tq)) : wpX_appendBit post (sc, oc, bt, (nI B), da, ag, lo, tp, sb, sd, tk, fw, fv, hv, sts, ops, opn, rg, kf, kk, th, ens, mv, mm, sps, ho, pb, pz, rc, mr, md, mt, gp, qc, qq, qe, lc, tq) (sd_b y) := by
  have e2 : nI B - nI B / 8 * 8 = nI (B % 8) := pk_rem (d := 8) (by omega) (by decide) (by decide)
  have e1 : nI B / 8 = nI (B / 8) := pk_div (d := 8) (by omega) (by decide) (by decide)
  have e3 : 7 - nI (B % 8) = nI (7 - B % 8) := pk_sub (a := 7) (by omega)
  have e4 : 800 + nI (B / 8) = nI (800 + B / 8) := nI_add 800 _
  unfold sd_ap at h
  refine pk_le 128 B (fun z => nm_r (nI_1 B) ?_) (fun z => ?_)
  · rw [if_neg (by omega)] at h; exact h
  · rw [if_pos z] at h
    rw [e2, e1, e3, e4, nI_clamp (by omega)]
    exact ⟨by decide, vp_in_nI (by omega) (by decide), by decide, vp_in_nI (by omega) (by decide), nm_e (nm_r (nI_1 B) h)⟩
theorem sy_add {post : SY → Prop} {B : Nat} {y : Bool} (hB : B < 520) (h : post (sc, oc, tl, tt, bt, (nI (B + 1)), ol, tp, sb, sd, tk, dr, ay, gl, fw, fv, hv, ta, lk, go, ca, cv, cm, cg, opn, ow, oq, ox, rg, sw, sa, sz, sg, ho, kf, kk, ra, ac, ea, eb, ch, th, mv, mm, ty, bi, (upd mk B (sd_b y)), rc, mr, md, mt, gp, yb, le, qc, qe, qq, tq, lc, gt)) : wpY_add post (sc, oc, tl, tt, bt, (nI B), ol, tp, sb, sd, tk, dr, ay, gl, fw, fv, hv, ta, lk, go, ca, cv, cm, cg, opn, ow, oq, ox, rg, sw, sa, sz, sg, ho, kf, kk, ra, ac, ea, eb, ch, th, mv, mm, ty, bi, mk, rc, mr, md, mt, gp, yb, le, qc, qe, qq, tq, lc, gt) (sd_b y) := by
  refine nm_r (nI_1 B) ⟨vp_in_nI hB (by decide), ?_⟩
  rw [nI_clamp (by omega), sd_bn]
  exact nm_e h
/-- the bits of one field, both sides at once -/
theorem sd_fb {f : Nat} (hf : f < 28) (hf4 : f / 4 < 6) (hh : ¬ hv (f / 4) = 0) {c k : Nat} : ∀ (r B : Nat) (pb mk : Nat → Int32), r ≤ 16 → B + r ≤ 512 → sd_BI B pb mk →
    ∃ pb' mk' : Nat → Int32, sd_BI (B + r) pb' mk' ∧ (∀ j, (j < 800 ∨ 816 ≤ j) → pb' j = pb j) ∧
    (∀ (post : SX → Prop) (J : Int32 → Int32 → Int32 → Int32 → Int32 → Int32 → Int32 → Int32 → Int32 → Int32 → Int32 → Int32 → (Nat → Int32) → (Nat → Int32) → (Nat → Int32) → (Nat → Int32) → (Nat → Int32) → (Nat → Int32) → (Nat → Int32) → (Nat → Int32) → (Nat → Int32) → (Nat → Int32) → (Nat → Int32) → (Nat → Int32) → (Nat → Int32) → (Nat → Int32) → (Nat → Int32) → (Nat → Int32) → (Nat → Int32) → (Nat → Int32) → (Nat → Int32) → (Nat → Int32) → (Nat → Int32) → (Nat → Int32) → (Nat → Int32) → (Nat → Int32) → (Nat → Int32) → (Nat → Int32) → (Nat → Int32) → Prop) (x1 : Int32), J (nI (c + 1)) sc oc bt (nI (B + r)) da ag lo tp sb sd tk fw fv hv sts ops opn rg kf kk th ens mv mm sps ho pb' pz rc mr md mt gp qc qq qe lc tq → wX_appendHeader_23 post J x1 (nI c) (nI f) (r + 1) (nI r - 1) sc oc bt (nI B) da ag lo tp sb sd tk fw fv hv sts ops opn rg kf kk th ens mv mm sps ho pb pz rc mr md mt gp qc qq qe lc tq) ∧
    (∀ (post : SY → Prop) (J : Int32 → Int32 → Int32 → Int32 → Int32 → Int32 → Int32 → Int32 → Int32 → Int32 → Int32 → Int32 → Int32 → Int32 → Int32 → (Nat → Int32) → (Nat → Int32) → (Nat → Int32) → (Nat → Int32) → (Nat → Int32) → (Nat → Int32) → (Nat → Int32) → (Nat → Int32) → (Nat → Int32) → (Nat → Int32) → (Nat → Int32) → (Nat → Int32) → (Nat → Int32) → (Nat → Int32) → (Nat → Int32) → (Nat → Int32) → (Nat → Int32) → (Nat → Int32) → (Nat → Int32) → (Nat → Int32) → (Nat → Int32) → (Nat → Int32) → (Nat → Int32) → (Nat → Int32) → (Nat → Int32) → (Nat → Int32) → (Nat → Int32) → (Nat → Int32) → (Nat → Int32) → (Nat → Int32) → (Nat → Int32) → (Nat → Int32) → (Nat → Int32) → (Nat → Int32) → (Nat → Int32) → (Nat → Int32) → (Nat → Int32) → (Nat → Int32) → (Nat → Int32) → (Nat → Int32) → (Nat → Int32) → (Nat → Int32) → (Nat → Int32) → (Nat → Int32) → (Nat → Int32) → (Nat → Int32) → Prop), J (nI (k + 1)) sc oc tl tt bt (nI (B + r)) ol tp sb sd tk dr ay gl fw fv hv ta lk go ca cv cm cg opn ow oq ox rg sw sa sz sg ho kf kk ra ac ea eb ch th mv mm ty bi mk' rc mr md mt gp yb le qc qe qq tq lc gt → wY_build_41 post J (nI k) (nI f) (r + 1) (nI r - 1) sc oc tl tt bt (nI B) ol tp sb sd tk dr ay gl fw fv hv ta lk go ca cv cm cg opn ow oq ox rg sw sa sz sg ho kf kk ra ac ea eb ch th mv mm ty bi mk rc mr md mt gp yb le qc qe qq tq lc gt) := by
  intro r
  induction r with
  | zero =>
    intro B pb mk hr hB hI
    have z : nI 0 - 1 < 0 := by decide
    exact ⟨pb, mk, hI, fun _ _ => rfl, fun post J x1 hp => br_t z (nm_r (nI_1 c) hp), fun post J hp => br_t z (nm_r (nI_1 k) hp)⟩
  | succ r ih =>
    intro B pb mk hr hB hI
    obtain ⟨y, hy, hy1, hy0⟩ := sd_b01 (sd_a1 (fv f >>> (nI r &&& 31)))
    obtain ⟨pb', mk', k1, k2, k3, k4⟩ := ih (B + 1) (sd_ap pb B y) (upd mk B (sd_b y)) (by omega) (by omega) (sd_BIs hI y)
    have er : nI (r + 1) - 1 = nI r := nI_pred r
    have em : nI r + (-1) = nI r - 1 := (Int32.sub_eq_add_neg _ _).symm
    have eb' : B + (r + 1) = B + 1 + r := by omega
    have ef : nI f / 4 = nI (f / 4) := pk_div (d := 4) (by omega) (by decide) (by decide)
    rw [eb', er]
    refine ⟨pb', mk', k1, fun j hj => (k2 j hj).trans (sd_apo hj), fun post J x1 hp => br_f (nI_pos (by omega)) ⟨vp_in_nI hf (by decide), ?_⟩, fun post J hp => br_f (nI_pos (by omega)) ⟨by decide, ?_⟩⟩
    · rw [nI_clamp (by omega), hy]
      exact sx_app (by omega) (nm_r em (k3 post J x1 hp))
    · rw [ef, nI_clamp (n := f / 4) (by omega), nI_clamp (n := f) (by omega)]
      refine ⟨vp_in_nI hf4 (by decide), br_f hh ⟨vp_in_nI hf (by decide), br_c (fun z => ?_) (fun z => ?_)⟩⟩
      · have := hy1 z
        subst this
        exact sy_add (y := true) (by omega) (nm_r em (k4 post J hp))
      · have := hy0 z
        subst this
        exact sy_add (y := false) (by omega) (nm_r em (k4 post J hp))
/-- Y: one field of the row, up to its loop -/
theorem sy_b7 {post : SY → Prop} {n i c h R w : Nat} (hi : i < R) (hR : R ≤ 6) (hc : c < 4) (hh : h < 6) (hho : ho i = nI h) (hw : fw (4 * h + c) = nI w) (hp : ∃ n41, wY_build_41 post (wY_build_7 post n) (nI (4 * i + c)) (nI (4 * h + c)) n41 (nI w - 1) sc (nI R) tl tt bt ma ol tp sb sd tk dr ay gl fw fv hv ta lk go ca cv cm cg opn ow oq ox rg sw sa sz sg ho kf kk ra ac ea eb ch th mv mm ty bi mk rc mr md mt gp yb le qc qe qq tq lc gt) : wY_build_7 post (n + 1) (nI (4 * i + c)) sc (nI R) tl tt bt ma ol tp sb sd tk dr ay gl fw fv hv ta lk go ca cv cm cg opn ow oq ox rg sw sa sz sg ho kf kk ra ac ea eb ch th mv mm ty bi mk rc mr md mt gp yb le qc qe qq tq lc gt := by
  have eR : 4 * nI R = nI (4 * R) := pk_mul 4 R
  have e2 : nI (4 * i + c) - nI (4 * i + c) / 4 * 4 = nI ((4 * i + c) % 4) := pk_rem (d := 4) (by omega) (by decide) (by decide)
  have e1 : nI (4 * i + c) / 4 = nI ((4 * i + c) / 4) := pk_div (d := 4) (by omega) (by decide) (by decide)
  have d1 : (4 * i + c) / 4 = i := by omega
  have d2 : (4 * i + c) % 4 = c := by omega
  refine br_f (by rw [eR]; exact nI_ge (by omega) (by omega)) ⟨by decide, ?_⟩
  rw [e2, e1, d1, d2, nI_clamp (n := i) (by omega), hho]
  refine ⟨vp_in_nI (by omega) (by decide), by decide, nm_r (sd_am h 4 c) ⟨vp_in_nI (by omega) (by decide), ?_⟩⟩
  rw [nI_clamp (n := 4 * h + c) (by omega), hw]
  exact nm_e hp
/-- a header of the row, both sides at once -/
theorem sd_hd (hF : sd_F fw fv hv) {i h R : Nat} (hi : i < R) (hR : R ≤ 6) (hh : h < 6) (hho : ho i = nI h) (hv1 : ¬ hv h = 0) : ∀ (d c B : Nat) (pb mk : Nat → Int32), c + d = 4 → B + 16 * d ≤ 512 → sd_BI B pb mk →
    ∃ (B' : Nat) (pb' mk' : Nat → Int32), B' ≤ B + 16 * d ∧ sd_BI B' pb' mk' ∧ (∀ j, (j < 800 ∨ 816 ≤ j) → pb' j = pb j) ∧
    (∀ post : SX → Prop, post (sc, (nI R), bt, (nI B'), da, ag, lo, tp, sb, sd, tk, fw, fv, hv, sts, ops, opn, rg, kf, kk, th, ens, mv, mm, sps, ho, pb', pz, rc, mr, md, mt, gp, qc, qq, qe, lc, tq) → wX_appendHeader_2 post (nI h) (d + 1) (nI c) sc (nI R) bt (nI B) da ag lo tp sb sd tk fw fv hv sts ops opn rg kf kk th ens mv mm sps ho pb pz rc mr md mt gp qc qq qe lc tq) ∧
    (∀ (post : SY → Prop) (n : Nat), wY_build_7 post n (nI (4 * i + 4)) sc (nI R) tl tt bt (nI B') ol tp sb sd tk dr ay gl fw fv hv ta lk go ca cv cm cg opn ow oq ox rg sw sa sz sg ho kf kk ra ac ea eb ch th mv mm ty bi mk' rc mr md mt gp yb le qc qe qq tq lc gt → wY_build_7 post (n + d) (nI (4 * i + c)) sc (nI R) tl tt bt (nI B) ol tp sb sd tk dr ay gl fw fv hv ta lk go ca cv cm cg opn ow oq ox rg sw sa sz sg ho kf kk ra ac ea eb ch th mv mm ty bi mk rc mr md mt gp yb le qc qe qq tq lc gt) := by
  intro d
  induction d with
  | zero =>
    intro c B pb mk hc hB hI
    have : c = 4 := by omega
    subst this
    exact ⟨B, pb, mk, by omega, hI, fun _ _ => rfl, fun post hp => br_t (by decide) hp, fun post n hp => hp⟩
  | succ d ih =>
    intro c B pb mk hc hB hI
    obtain ⟨w, w1, w2, w3⟩ := sd_wi hF (f := 4 * h + c) (by omega)
    have d4 : (4 * h + c) / 4 = h := by omega
    obtain ⟨pb1, mk1, k1, k2, k3, k4⟩ := sd_fb (sc := sc) (oc := (nI R)) (bt := bt) (da := da) (ag := ag) (lo := lo) (tp := tp) (sb := sb) (sd := sd) (tk := tk) (fw := fw) (fv := fv) (hv := hv) (sts := sts) (ops := ops) (opn := opn) (rg := rg) (kf := kf) (kk := kk) (th := th) (ens := ens) (mv := mv) (mm := mm) (sps := sps) (ho := ho) (pz := pz) (rc := rc) (mr := mr) (md := md) (mt := mt) (gp := gp) (qc := qc) (qq := qq) (qe := qe) (lc := lc) (tq := tq) (tl := tl) (tt := tt) (ol := ol) (dr := dr) (ay := ay) (gl := gl) (ta := ta) (lk := lk) (go := go) (ca := ca) (cv := cv) (cm := cm) (cg := cg) (ow := ow) (oq := oq) (ox := ox) (sw := sw) (sa := sa) (sz := sz) (sg := sg) (ra := ra) (ac := ac) (ea := ea) (eb := eb) (ch := ch) (ty := ty) (bi := bi) (yb := yb) (le := le) (gt := gt) (f := 4 * h + c) (c := c) (k := 4 * i + c) (by omega) (by omega) (by rw [d4]; exact hv1) w B pb mk w1 (by omega) hI
    obtain ⟨B', pb', mk', l1, l2, l3, l4, l5⟩ := ih (c + 1) (B + w) pb1 mk1 (by omega) (by omega) k1
    refine ⟨B', pb', mk', by omega, l2, fun j hj => (l3 j hj).trans (k2 j hj), fun post hp => ?_, fun post n hp => ?_⟩
    · refine br_f (nI_ge (b := 4) (by omega) (by decide)) (nm_r ((sd_ma h 4 c).trans (by rw [Nat.mul_comm])) ⟨vp_in_nI (by omega) (by decide), ?_⟩)
      rw [nI_clamp (n := 4 * h + c) (by omega), w2]
      exact nm_e ⟨w + 1, k3 post _ (nI h) (l4 post hp)⟩
    · exact sy_b7 (n := n + d) hi hR (by omega) hh hho w2 ⟨w + 1, k4 post _ (l5 post n hp)⟩
/-- Y: a header of the row that is not valid -/
theorem sy_skip (hF : sd_F fw fv hv) {post : SY → Prop} {i h R n : Nat} (hi : i < R) (hR : R ≤ 6) (hh : h < 6) (hho : ho i = nI h) (hv1 : hv h = 0) : ∀ (d c : Nat), c + d = 4 → wY_build_7 post n (nI (4 * i + 4)) sc (nI R) tl tt bt ma ol tp sb sd tk dr ay gl fw fv hv ta lk go ca cv cm cg opn ow oq ox rg sw sa sz sg ho kf kk ra ac ea eb ch th mv mm ty bi mk rc mr md mt gp yb le qc qe qq tq lc gt → wY_build_7 post (n + d) (nI (4 * i + c)) sc (nI R) tl tt bt ma ol tp sb sd tk dr ay gl fw fv hv ta lk go ca cv cm cg opn ow oq ox rg sw sa sz sg ho kf kk ra ac ea eb ch th mv mm ty bi mk rc mr md mt gp yb le qc qe qq tq lc gt
  | 0, c, hc, hp => by
    have : c = 4 := by omega
    subst this
    exact hp
  | d + 1, c, hc, hp => by
    obtain ⟨w, w1, w2, w3⟩ := sd_wi hF (f := 4 * h + c) (by omega)
    have g := sy_skip hF hi hR hh hho hv1 d (c + 1) (by omega) hp
    have ef : nI (4 * h + c) / 4 = nI h := (pk_div (d := 4) (by omega) (by decide) (by decide)).trans (by congr 1; omega)
    refine sy_b7 (n := n + d) hi hR (by omega) hh hho w2 ⟨1, br_c (fun _ => nm_r (nI_1 _) g) (fun _ => ⟨by decide, ?_⟩)⟩
    rw [ef, nI_clamp (n := h) (by omega)]
    exact ⟨vp_in_nI hh (by decide), br_t hv1 (nm_r (nI_1 _) g)⟩
/-- the row of headers, both sides at once -/
theorem sd_rw (hF : sd_F fw fv hv) {R : Nat} (hR : R ≤ 6) (hho : ∀ i, i < 6 → sd_rg 6 (ho i)) : ∀ (d i B : Nat) (pb mk : Nat → Int32), i + d = R → B + 64 * d ≤ 512 → sd_BI B pb mk →
    ∃ (B' : Nat) (pb' mk' : Nat → Int32), B' ≤ B + 64 * d ∧ sd_BI B' pb' mk' ∧ (∀ j, (j < 800 ∨ 816 ≤ j) → pb' j = pb j) ∧
    (∀ post : SX → Prop, (∃ n, wX_buildPacket_83 post ((pz 49) * 8) n bt sc (nI R) bt (nI B') da ag lo tp sb sd tk fw fv hv sts ops opn rg kf kk th ens mv mm sps ho pb' pz rc mr md mt gp qc qq qe lc tq) → wX_buildPacket_32 post (d + 1) (nI i) sc (nI R) bt (nI B) da ag lo tp sb sd tk fw fv hv sts ops opn rg kf kk th ens mv mm sps ho pb pz rc mr md mt gp qc qq qe lc tq) ∧
    (∀ (post : SY → Prop) (n : Nat), wY_build_7 post n (nI (4 * R)) sc (nI R) tl tt bt (nI B') ol tp sb sd tk dr ay gl fw fv hv ta lk go ca cv cm cg opn ow oq ox rg sw sa sz sg ho kf kk ra ac ea eb ch th mv mm ty bi mk' rc mr md mt gp yb le qc qe qq tq lc gt → wY_build_7 post (n + 4 * d) (nI (4 * i)) sc (nI R) tl tt bt (nI B) ol tp sb sd tk dr ay gl fw fv hv ta lk go ca cv cm cg opn ow oq ox rg sw sa sz sg ho kf kk ra ac ea eb ch th mv mm ty bi mk rc mr md mt gp yb le qc qe qq tq lc gt) := by
  intro d
  induction d with
  | zero =>
    intro i B pb mk hi hB hI
    have : i = R := by omega
    subst this
    exact ⟨B, pb, mk, by omega, hI, fun _ _ => rfl, fun post hp => br_t (nI_le (Nat.le_refl _) (by omega)) (nm_e hp), fun post n hp => hp⟩
  | succ d ih =>
    intro i B pb mk hi hB hI
    obtain ⟨h, hh, eh⟩ := hho i (by omega)
    have nx : ¬ nI R ≤ nI i := nI_ge (by omega) (by omega)
    have hi6 : vp_in (nI i) 6 := vp_in_nI (by omega) (by decide)
    by_cases z : hv h = 0
    · obtain ⟨B', pb', mk', l1, l2, l3, l4, l5⟩ := ih (i + 1) B pb mk (by omega) (by omega) hI
      refine ⟨B', pb', mk', by omega, l2, l3, fun post hp => br_f nx ⟨hi6, ?_⟩, fun post n hp => ?_⟩
      · rw [nI_clamp (n := i) (by omega)]
        refine nm_r eh ⟨vp_in_nI hh (by decide), ?_⟩
        rw [nI_clamp (n := h) (by omega)]
        exact br_t z (nm_r (nI_1 i) (l4 post hp))
      · have g := sy_skip hF (n := n + 4 * d) (show i < R by omega) hR hh eh z 4 0 (by omega) (l5 post n hp)
        exact g
    · obtain ⟨B1, pb1, mk1, k1, k2, k3, k4, k5⟩ := sd_hd (sc := sc) (bt := bt) (da := da) (ag := ag) (lo := lo) (tp := tp) (sb := sb) (sd := sd) (tk := tk) (fw := fw) (fv := fv) (hv := hv) (sts := sts) (ops := ops) (opn := opn) (rg := rg) (kf := kf) (kk := kk) (th := th) (ens := ens) (mv := mv) (mm := mm) (sps := sps) (ho := ho) (pz := pz) (rc := rc) (mr := mr) (md := md) (mt := mt) (gp := gp) (qc := qc) (qq := qq) (qe := qe) (lc := lc) (tq := tq) (tl := tl) (tt := tt) (ol := ol) (dr := dr) (ay := ay) (gl := gl) (ta := ta) (lk := lk) (go := go) (ca := ca) (cv := cv) (cm := cm) (cg := cg) (ow := ow) (oq := oq) (ox := ox) (sw := sw) (sa := sa) (sz := sz) (sg := sg) (ra := ra) (ac := ac) (ea := ea) (eb := eb) (ch := ch) (ty := ty) (bi := bi) (yb := yb) (le := le) (gt := gt) hF (show i < R by omega) hR hh eh z 4 0 B pb mk (by omega) (by omega) hI
      obtain ⟨B', pb', mk', l1, l2, l3, l4, l5⟩ := ih (i + 1) B1 pb1 mk1 (by omega) (by omega) k2
      refine ⟨B', pb', mk', by omega, l2, fun j hj => (l3 j hj).trans (k3 j hj), fun post hp => br_f nx ⟨hi6, ?_⟩, fun post n hp => ?_⟩
      · rw [nI_clamp (n := i) (by omega)]
        refine nm_r eh ⟨vp_in_nI hh (by decide), ?_⟩
        rw [nI_clamp (n := h) (by omega)]
        exact br_f z ⟨5, k4 _ (nm_r (nI_1 i) (l4 post hp))⟩
      · have g := k5 post (n + 4 * d) (l5 post n hp)
        exact g
/-- the bits behind the headers, both sides at once -/
theorem sd_tl {Z : Nat} (hZ : Z ≤ 16) : ∀ (d k B : Nat) (pb mk : Nat → Int32), k + d = 8 * Z → B + d ≤ 512 → (∀ i, i < 8 * Z → bi i = sd_bv (pb (784 + i / 8)) (i % 8)) → sd_BI B pb mk →
    ∃ (pb' mk' : Nat → Int32), sd_BI (B + d) pb' mk' ∧ (∀ j, (j < 800 ∨ 816 ≤ j) → pb' j = pb j) ∧
    (∀ post : SX → Prop, post (sc, oc, bt, (nI (B + d)), da, ag, lo, tp, sb, sd, tk, fw, fv, hv, sts, ops, opn, rg, kf, kk, th, ens, mv, mm, sps, ho, pb', (upd pz 50 (if B + d ≤ 128 then nI ((B + d + 7) / 8) else 0)), rc, mr, md, mt, gp, qc, qq, qe, lc, tq) → wX_buildPacket_83 post (nI (8 * Z)) (d + 1) (nI k) sc oc bt (nI B) da ag lo tp sb sd tk fw fv hv sts ops opn rg kf kk th ens mv mm sps ho pb pz rc mr md mt gp qc qq qe lc tq) ∧
    (∀ post : SY → Prop, (∃ n, wY_build_120 post n sc oc tl (nI (8 * Z)) bt (nI (B + d)) ol tp sb sd tk dr ay gl fw fv hv ta lk go ca cv cm cg opn ow oq ox rg sw sa sz sg ho kf kk ra ac ea eb ch th mv mm ty bi mk' rc mr md mt gp yb le qc qe qq tq lc gt) → wY_build_96 post (d + 1) (nI k) sc oc tl (nI (8 * Z)) bt (nI B) ol tp sb sd tk dr ay gl fw fv hv ta lk go ca cv cm cg opn ow oq ox rg sw sa sz sg ho kf kk ra ac ea eb ch th mv mm ty bi mk rc mr md mt gp yb le qc qe qq tq lc gt) := by
  intro d
  induction d with
  | zero =>
    intro k B pb mk hk hB hb hI
    refine ⟨pb, mk, hI, fun _ _ => rfl, fun post hp => br_t (nI_le (by omega) (by omega)) ?_, fun post hp => br_t (nI_le (by omega) (by omega)) hp⟩
    refine pk_le (B + 0) 128 (fun z => ⟨by decide, ?_⟩) (fun z => nm_e ?_)
    · rw [if_pos z] at hp
      have e7 : nI (B + 0) + 7 = nI (B + 0 + 7) := nI_add _ 7
      have e8 : nI (B + 0 + 7) / 8 = nI ((B + 0 + 7) / 8) := pk_div (d := 8) (by omega) (by decide) (by decide)
      have e : (nI B + 7) / 8 = nI ((B + 0 + 7) / 8) := by rw [← e8, ← e7]; rfl
      rw [e]
      exact nm_e hp
    · rw [if_neg (by omega)] at hp
      exact hp
  | succ d ih =>
    intro k B pb mk hk hB hb hI
    obtain ⟨y, hy, hy1, hy0⟩ := sd_b01 (sd_bv01 (pb (784 + k / 8)) (k % 8))
    have eb' : B + (d + 1) = B + 1 + d := by omega
    obtain ⟨pb', mk', k1, k2, k3, k4⟩ := ih (k + 1) (B + 1) (sd_ap pb B y) (upd mk B (sd_b y)) (by omega) (by omega) (fun i hi => by rw [sd_apo (by omega)]; exact hb i hi) (sd_BIs hI y)
    rw [eb']
    refine ⟨pb', mk', k1, fun j hj => (k2 j hj).trans (sd_apo hj), fun post hp => br_f (nI_ge (by omega) (by omega)) (sx_bit (s := 49) (by omega) (by omega) ?_), fun post hp => br_f (nI_ge (by omega) (by omega)) ⟨vp_in_nI (by omega) (by decide), ?_⟩⟩
    · have hy' : sd_bv (pb (49 * 16 + k / 8)) (k % 8) = sd_b y := hy
      rw [hy']
      exact sx_app (by omega) (nm_r (nI_1 k) (k3 post hp))
    · rw [nI_clamp (by omega), hb k (by omega), hy]
      exact sy_add (by omega) (nm_r (nI_1 k) (k4 post hp))
/-- Y: filling up with zeros -/
def sd_pd : Nat → Nat → (Nat → Int32) → (Nat → Int32)
  | 0, _, a => a
  | d + 1, B, a => sd_pd d (B + 1) (upd a B (sd_b false))
theorem sd_BIp {pb : Nat → Int32} : ∀ (d B : Nat) (a : Nat → Int32), sd_BI B pb a → sd_BI (B + d) pb (sd_pd d B a)
  | 0, B, a, h => h
  | d + 1, B, a, h => by
    have e : B + (d + 1) = B + 1 + d := by omega
    rw [e]
    exact sd_BIp d (B + 1) (upd a B (sd_b false)) (sd_BI0 h)
theorem sy_pad {post : SY → Prop} : ∀ (d B : Nat) (a : Nat → Int32), (B + d) % 8 = 0 → d < 8 → B + d ≤ 512 → post (sc, oc, tl, tt, bt, (nI (B + d)), ol, tp, sb, sd, tk, dr, ay, gl, fw, fv, hv, ta, lk, go, ca, cv, cm, cg, opn, ow, oq, ox, rg, sw, sa, sz, sg, ho, kf, kk, ra, ac, ea, eb, ch, th, mv, mm, ty, bi, (sd_pd d B a), rc, mr, md, mt, gp, yb, le, qc, qe, qq, tq, lc, gt) → wY_build_120 post (d + 1) sc oc tl tt bt (nI B) ol tp sb sd tk dr ay gl fw fv hv ta lk go ca cv cm cg opn ow oq ox rg sw sa sz sg ho kf kk ra ac ea eb ch th mv mm ty bi a rc mr md mt gp yb le qc qe qq tq lc gt
  | 0, B, a, h8, hd, hB, hp => by
    have e : nI B - nI B / 8 * 8 = nI (B % 8) := pk_rem (d := 8) (by omega) (by decide) (by decide)
    refine ⟨by decide, br_t ?_ hp⟩
    have z : B % 8 = 0 := h8
    rw [e, z]
    decide
  | d + 1, B, a, h8, hd, hB, hp => by
    have e : nI B - nI B / 8 * 8 = nI (B % 8) := pk_rem (d := 8) (by omega) (by decide) (by decide)
    have eb' : B + (d + 1) = B + 1 + d := by omega
    rw [eb'] at hp
    refine ⟨by decide, br_f ?_ (sy_add (y := false) (by omega) (sy_pad d (B + 1) (upd a B (sd_b false)) (by omega) (by omega) (by omega) hp))⟩
    rw [e]
    exact nI_nle (by omega) (by omega)
/-- the built packet's bytes are 0 -/
def sd_zb (pb : Nat → Int32) : Nat → (Nat → Int32)
  | 0 => pb
  | i + 1 => upd (sd_zb pb i) (800 + i) 0
theorem sd_zbi {pb : Nat → Int32} : ∀ i j, j < i → sd_zb pb i (800 + j) = 0
  | 0, j, h => absurd h (by omega)
  | i + 1, j, h => by
    show upd (sd_zb pb i) (800 + i) 0 (800 + j) = 0
    by_cases e : j = i
    · subst e; rw [pk_us]
    · rw [pk_un (by omega)]; exact sd_zbi i j (by omega)
theorem sd_zbo {pb : Nat → Int32} : ∀ i j, i ≤ 16 → (j < 800 ∨ 816 ≤ j) → sd_zb pb i j = pb j
  | 0, j, _, h => rfl
  | i + 1, j, hi, h => by
    show upd (sd_zb pb i) (800 + i) 0 j = _
    rw [pk_un (by omega)]; exact sd_zbo i j (by omega) h
/-- building, both sides at once -/
theorem sd_build (hF : sd_F fw fv hv) {R Z b : Nat} (hR : R ≤ 6) (hho : ∀ i, i < 6 → sd_rg 6 (ho i)) (hZ : Z ≤ 16) (hb : b ≤ 8 * Z) (hz : pz 49 = nI Z) (hB : ∀ i, i < 8 * Z → bi i = sd_bv (pb (784 + i / 8)) (i % 8)) :
    ∃ (B L : Nat) (pb' mk' : Nat → Int32), B ≤ 512 ∧ L = (B + 7) / 8 ∧ sd_BI (8 * L) pb' mk' ∧ (∀ j, (j < 800 ∨ 816 ≤ j) → pb' j = pb j) ∧
    (∀ post : SX → Prop, post (sc, (nI R), (nI b), (nI B), da, ag, lo, tp, sb, sd, tk, fw, fv, hv, sts, ops, opn, rg, kf, kk, th, ens, mv, mm, sps, ho, pb', (upd pz 50 (if B ≤ 128 then nI L else 0)), rc, mr, md, mt, gp, qc, qq, qe, lc, tq) → wpX_buildPacket post (sc, (nI R), (nI b), bb, da, ag, lo, tp, sb, sd, tk, fw, fv, hv, sts, ops, opn, rg, kf, kk, th, ens, mv, mm, sps, ho, pb, pz, rc, mr, md, mt, gp, qc, qq, qe, lc, tq)) ∧
    (∀ post : SY → Prop, post (sc, (nI R), tl, (nI (8 * Z)), (nI b), (nI (8 * L)), ol, tp, sb, sd, tk, dr, ay, gl, fw, fv, hv, ta, lk, go, ca, cv, cm, cg, opn, ow, oq, ox, rg, sw, sa, sz, sg, ho, kf, kk, ra, ac, ea, eb, ch, th, mv, mm, ty, bi, mk', rc, mr, md, mt, gp, yb, le, qc, qe, qq, tq, lc, gt) → wpY_build post (sc, (nI R), tl, (nI (8 * Z)), (nI b), ma, ol, tp, sb, sd, tk, dr, ay, gl, fw, fv, hv, ta, lk, go, ca, cv, cm, cg, opn, ow, oq, ox, rg, sw, sa, sz, sg, ho, kf, kk, ra, ac, ea, eb, ch, th, mv, mm, ty, bi, mk, rc, mr, md, mt, gp, yb, le, qc, qe, qq, tq, lc, gt)) := by
  have I0 : sd_BI 0 (sd_zb pb 16) mk := by
    refine ⟨fun _ => false, fun _ _ => rfl, fun j hj => absurd hj (by omega), fun _ i hi => ?_⟩
    rw [sd_zbi 16 i hi]
    exact sd_b80.symm
  obtain ⟨B1, pb1, mk1, k1, k2, k3, k4, k5⟩ := sd_rw (sc := sc) (bt := (nI b)) (da := da) (ag := ag) (lo := lo) (tp := tp) (sb := sb) (sd := sd) (tk := tk) (fw := fw) (fv := fv) (hv := hv) (sts := sts) (ops := ops) (opn := opn) (rg := rg) (kf := kf) (kk := kk) (th := th) (ens := ens) (mv := mv) (mm := mm) (sps := sps) (ho := ho) (pz := pz) (rc := rc) (mr := mr) (md := md) (mt := mt) (gp := gp) (qc := qc) (qq := qq) (qe := qe) (lc := lc) (tq := tq) (tl := tl) (tt := (nI (8 * Z))) (ol := ol) (dr := dr) (ay := ay) (gl := gl) (ta := ta) (lk := lk) (go := go) (ca := ca) (cv := cv) (cm := cm) (cg := cg) (ow := ow) (oq := oq) (ox := ox) (sw := sw) (sa := sa) (sz := sz) (sg := sg) (ra := ra) (ac := ac) (ea := ea) (eb := eb) (ch := ch) (ty := ty) (bi := bi) (yb := yb) (le := le) (gt := gt) hF hR hho R 0 0 (sd_zb pb 16) mk (by omega) (by omega) I0
  obtain ⟨pb2, mk2, l1, l2, l3, l4⟩ := sd_tl (sc := sc) (oc := (nI R)) (bt := (nI b)) (da := da) (ag := ag) (lo := lo) (tp := tp) (sb := sb) (sd := sd) (tk := tk) (fw := fw) (fv := fv) (hv := hv) (sts := sts) (ops := ops) (opn := opn) (rg := rg) (kf := kf) (kk := kk) (th := th) (ens := ens) (mv := mv) (mm := mm) (sps := sps) (ho := ho) (pz := pz) (rc := rc) (mr := mr) (md := md) (mt := mt) (gp := gp) (qc := qc) (qq := qq) (qe := qe) (lc := lc) (tq := tq) (tl := tl) (ol := ol) (dr := dr) (ay := ay) (gl := gl) (ta := ta) (lk := lk) (go := go) (ca := ca) (cv := cv) (cm := cm) (cg := cg) (ow := ow) (oq := oq) (ox := ox) (sw := sw) (sa := sa) (sz := sz) (sg := sg) (ra := ra) (ac := ac) (ea := ea) (eb := eb) (ch := ch) (ty := ty) (bi := bi) (yb := yb) (le := le) (gt := gt) hZ (8 * Z - b) b B1 pb1 mk1 (by omega) (by omega) (fun i hi => by rw [k3 _ (by omega), sd_zbo 16 _ (by omega) (by omega)]; exact hB i hi) k2
  have e8 : (pz 49) * 8 = nI (8 * Z) := by rw [hz]; exact (pk_mul Z 8).trans (by rw [Nat.mul_comm])
  rw [e8] at k4
  have hL : ∃ L d : Nat, L = (B1 + (8 * Z - b) + 7) / 8 ∧ B1 + (8 * Z - b) + d = 8 * L ∧ d < 8 := ⟨_, 8 * ((B1 + (8 * Z - b) + 7) / 8) - (B1 + (8 * Z - b)), rfl, by omega, by omega⟩
  obtain ⟨L, d, hL1, hL2, hL3⟩ := hL
  have pad : ∃ mk3 : Nat → Int32, sd_BI (8 * L) pb2 mk3 ∧ ∀ post : SY → Prop, post (sc, (nI R), tl, (nI (8 * Z)), (nI b), (nI (8 * L)), ol, tp, sb, sd, tk, dr, ay, gl, fw, fv, hv, ta, lk, go, ca, cv, cm, cg, opn, ow, oq, ox, rg, sw, sa, sz, sg, ho, kf, kk, ra, ac, ea, eb, ch, th, mv, mm, ty, bi, mk3, rc, mr, md, mt, gp, yb, le, qc, qe, qq, tq, lc, gt) → ∃ n, wY_build_120 post n sc (nI R) tl (nI (8 * Z)) (nI b) (nI (B1 + (8 * Z - b))) ol tp sb sd tk dr ay gl fw fv hv ta lk go ca cv cm cg opn ow oq ox rg sw sa sz sg ho kf kk ra ac ea eb ch th mv mm ty bi mk2 rc mr md mt gp yb le qc qe qq tq lc gt := by
    refine ⟨sd_pd d (B1 + (8 * Z - b)) mk2, ?_, fun post hp => ⟨d + 1, sy_pad d _ mk2 (by omega) hL3 (by omega) ?_⟩⟩
    · rw [← hL2]; exact sd_BIp d _ mk2 l1
    · rw [hL2]; exact hp
  obtain ⟨mk3, p1, p2⟩ := pad
  refine ⟨B1 + (8 * Z - b), L, pb2, mk3, by omega, hL1, p1, fun j hj => ((l2 j hj).trans (k3 j hj)).trans (sd_zbo 16 j (by omega) hj), fun post hp => ?_, fun post hp => ?_⟩
  · refine sd_lp (fun n i s => wX_buildPacket_7 post sc (nI R) (nI b) 0 da ag lo tp sb sd tk n (nI i) fw fv hv sts ops opn rg kf kk th ens mv mm sps ho s pz rc mr md mt gp qc qq qe lc tq) (fun i => sd_zb pb i) 16 0 (by omega) (fun n => br_t (nI_le (a := 16) (b := 16) (Nat.le_refl _) (by omega)) ⟨R + 1, k4 post ⟨_, l3 post ?_⟩⟩)
      (fun n i _ hi ih => br_f (nI_ge (b := 16) hi (by omega)) (sd_st (800 + i) (nI_add 800 i) (by omega) (by decide) (nm_r (nI_1 i) ih)))
    rw [← hL1]
    exact hp
  · refine ⟨_, k5 post 1 (br_t ?_ ⟨_, l4 post (p2 post hp)⟩)⟩
    have eR : 4 * nI R = nI (4 * R) := pk_mul 4 R
    rw [eR]
    exact nI_le (Nat.le_refl _) (by omega)
end
