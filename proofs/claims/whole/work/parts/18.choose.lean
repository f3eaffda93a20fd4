section
variable {sc oc bt bb da ag lo tp sb sd tk : Int32} {fw fv hv sts ops opn rg kf kk th ens mv mm sps ho pb pz rc mr md mt gp qc qq qe lc tq : Nat → Int32} {tl tt ma ol dr ay gl : Int32} {ta lk go ca cv cm cg ow oq ox sw sa sz sg ra ac ea eb ch ty bi mk yb le gt : Nat → Int32}
theorem sd_sle {a b : Nat} (ha : a < 2 ^ 30) (hb : b < 2 ^ 30) : nI a - nI b ≤ 0 ↔ a ≤ b := by
  have e0 : (0 : Int32).toInt = 0 := by decide
  rw [sd_leI, pk_sub_toInt ha hb, e0]
  omega
theorem sd_sz {a b : Nat} (ha : a < 2 ^ 30) (hb : b < 2 ^ 30) : nI a - nI b = 0 ↔ a = b := by
  constructor
  · intro h
    have h2 := congrArg Int32.toInt h
    have e0 : (0 : Int32).toInt = 0 := by decide
    rw [pk_sub_toInt ha hb, e0] at h2
    omega
  · rintro rfl
    exact Int32.sub_self _
def sd_LN (kf kk fw mm : Nat → Int32) (t x : Nat) : Int32 := sd_ln kf kk fw mm t x 0 + sd_ln kf kk fw mm t x 1
theorem sd_LNr (hE : sd_E kf kk th ens mm ra ac ea eb ch) (hF : sd_F fw fv hv) {t e : Nat} (ht : t < 4) (he : e < 12) (hth : ¬ th (13 * t + e) = 0) : ∃ l : Nat, l ≤ 32 ∧ sd_LN kf kk fw mm t (13 * t + e) = nI l := by
  obtain ⟨a, ha, ea'⟩ := sd_lnr hE hF ht he hth (c := 0) (by omega)
  obtain ⟨b, hb, eb'⟩ := sd_lnr hE hF ht he hth (c := 1) (by omega)
  refine ⟨a + b, by omega, ?_⟩
  unfold sd_LN
  rw [ea', eb', nI_add]
def sd_bst (kf kk fw mm ra : Nat → Int32) (t : Nat) (xc xr xo yb : Int32) : Prop :=
  (xc = -1 ∧ xr = -1 ∧ xo = -1 ∧ yb = -1) ∨ ∃ e r l : Nat, e < 12 ∧ r < 16 ∧ l ≤ 32 ∧ xc = nI e ∧ xr = nI r ∧ xo = nI l ∧ yb = nI (13 * t + e) ∧ ra (13 * t + e) = nI r ∧ sd_LN kf kk fw mm t (13 * t + e) = nI l
theorem sx_47s {post : Int32 → Prop} {J : Int32 → Int32 → Int32 → Int32 → Prop} {x1 x2 x3 x4 : Int32} {e x : Nat} (hx : x < 52) (h : J x2 x3 x4 (nI (e + 1))) : wX_chooseEntry_47 post J x1 x2 x3 x4 (nI e) (nI x) (-1) sc oc bt bb da ag lo tp sb sd tk fw fv hv sts ops opn rg kf kk th ens mv mm sps ho pb pz rc mr md mt gp qc qq qe lc tq := by
  have i0 : nI x * 5 + 0 = nI (x * 5 + 0) := sd_ma x 5 0
  have g : ∀ (x8 z : Int32), wX_chooseEntry_86 post J x1 x2 x3 x4 (nI e) (-1) x8 z sc oc bt bb da ag lo tp sb sd tk fw fv hv sts ops opn rg kf kk th ens mv mm sps ho pb pz rc mr md mt gp qc qq qe lc tq := fun x8 z => br_t rfl (nm_r (nI_1 e) h)
  refine ⟨by rw [i0]; exact vp_in_nI (by omega) (by decide), nm_e (br_c (fun _ => g _ _) (fun _ => br_c (fun _ => br_c (fun _ => g _ _) (fun _ => g _ _)) (fun _ => g _ _)))⟩
theorem sx_47b {post : Int32 → Prop} {J : Int32 → Int32 → Int32 → Int32 → Prop} {x1 x2 x3 x4 : Int32} {e x r l : Nat} (hx : x < 52) (hr : ens (x * 5 + 0) = nI r) (hl : l < 2 ^ 31)
    (h1 : (x3 < nI r ∨ (nI r = x3 ∧ ¬ nI l ≤ x4)) → J (nI e) (nI r) (nI l) (nI (e + 1))) (h0 : ¬ (x3 < nI r ∨ (nI r = x3 ∧ ¬ nI l ≤ x4)) → J x2 x3 x4 (nI (e + 1))) : wX_chooseEntry_47 post J x1 x2 x3 x4 (nI e) (nI x) (nI l) sc oc bt bb da ag lo tp sb sd tk fw fv hv sts ops opn rg kf kk th ens mv mm sps ho pb pz rc mr md mt gp qc qq qe lc tq := by
  have i0 : nI x * 5 + 0 = nI (x * 5 + 0) := sd_ma x 5 0
  have nl : ¬ nI l = -1 := sd_ne hl
  refine ⟨by rw [i0]; exact vp_in_nI (by omega) (by decide), ?_⟩
  rw [i0, nI_clamp (n := x * 5 + 0) (by omega), hr]
  have g1 : (x3 < nI r ∨ (nI r = x3 ∧ ¬ nI l ≤ x4)) → wX_chooseEntry_86 post J x1 x2 x3 x4 (nI e) (nI l) (nI r) 1 sc oc bt bb da ag lo tp sb sd tk fw fv hv sts ops opn rg kf kk th ens mv mm sps ho pb pz rc mr md mt gp qc qq qe lc tq := fun z => br_f nl (br_f sd_10 (nm_r (nI_1 e) (h1 z)))
  have g0 : ¬ (x3 < nI r ∨ (nI r = x3 ∧ ¬ nI l ≤ x4)) → wX_chooseEntry_86 post J x1 x2 x3 x4 (nI e) (nI l) (nI r) 0 sc oc bt bb da ag lo tp sb sd tk fw fv hv sts ops opn rg kf kk th ens mv mm sps ho pb pz rc mr md mt gp qc qq qe lc tq := fun z => br_f nl (br_t rfl (nm_r (nI_1 e) (h0 z)))
  exact nm_e (br_c (fun a => g1 (Or.inl a)) (fun a => br_c (fun b => br_c (fun c => g0 (by rintro (z | z); exact a z; exact z.2 c)) (fun c => g1 (Or.inr ⟨b, c⟩))) (fun b => g0 (by rintro (z | z); exact a z; exact b z.1))))
theorem sd_ch1 (hE : sd_E kf kk th ens mm ra ac ea eb ch) (hF : sd_F fw fv hv) {t : Nat} (ht : t < 4) : ∀ (d e : Nat), e + d = 12 → ∀ xc xr xo yb' : Int32, sd_bst kf kk fw mm ra t xc xr xo yb' →
    ∃ (xc' : Int32) (row : Nat), ((xc' = -1 ∧ row = 13 * t + 12) ∨ ∃ e' : Nat, e' < 12 ∧ xc' = nI e' ∧ row = 13 * t + e') ∧
    (∀ post : Int32 → Prop, post xc' → wX_chooseEntry_10 post (nI t) sc oc bt bb da ag lo tp sb sd tk fw fv hv sts ops opn rg kf kk th ens mv mm sps ho pb pz rc mr md mt gp qc qq qe lc tq (d + 1) xc xr xo (nI e)) ∧ (∀ post : Int32 → Prop, post (nI row) → wY_choose_7 post (nI t) sc oc tl tt bt ma ol tp sb sd tk dr ay gl fw fv hv ta lk go ca cv cm cg opn ow oq ox rg sw sa sz sg ho kf kk ra ac ea eb ch th mv mm ty bi mk rc mr md mt gp yb le qc qe qq tq lc gt (d + 1) yb' (nI (13 * t + e))) := by
  have i12 : 13 * nI t + 12 = nI (13 * t + 12) := sd_13 t 12
  intro d
  induction d with
  | zero =>
    intro e he xc xr xo yb' hb
    have : e = 12 := by omega
    subst this
    rcases hb with ⟨h1, h2, h3, h4⟩ | ⟨e0, r0, l0, he0, hr0, hl0, h1, h2, h3, h4, h5, h6⟩
    · refine ⟨-1, 13 * t + 12, Or.inl ⟨rfl, rfl⟩, fun post hp => br_t (by decide) (by rw [h1]; exact hp), fun post hp => ?_⟩
      rw [h4]
      refine br_t (by rw [i12]; exact nI_le (Nat.le_refl _) (by omega)) (br_f (by decide) ?_)
      rw [i12]; exact hp
    · refine ⟨nI e0, 13 * t + e0, Or.inr ⟨e0, he0, rfl, rfl⟩, fun post hp => br_t (by decide) (by rw [h1]; exact hp), fun post hp => ?_⟩
      rw [h4]
      exact br_t (by rw [i12]; exact nI_le (Nat.le_refl _) (by omega)) (br_t (nI_pos' (by omega)) hp)
  | succ d ih =>
    intro e he xc xr xo yb' hb
    have nx : ¬ 12 ≤ nI e := nI_ge (b := 12) (by omega) (by decide)
    have ny : ¬ 13 * nI t + 12 ≤ nI (13 * t + e) := by rw [i12]; exact nI_ge (by omega) (by omega)
    have v52 : vp_in (nI (13 * t + e)) 52 := vp_in_nI (by omega) (by decide)
    by_cases z : th (13 * t + e) = 0
    · obtain ⟨xc', row, k1, k2, k3⟩ := ih (e + 1) (by omega) xc xr xo yb' hb
      refine ⟨xc', row, k1, fun post hp => br_f nx (nm_r (sd_13' t e) ⟨v52, br_t ?_ (sx_47s (by omega) (k2 post hp))⟩), fun post hp => br_f ny ⟨v52, br_t ?_ (nm_r (nI_1 _) (k3 post hp))⟩⟩
      · rw [nI_clamp (by omega)]; exact z
      · rw [nI_clamp (by omega)]; exact z
    · have zx : ¬ th (nI (13 * t + e)).toNatClampNeg = 0 := by rw [nI_clamp (by omega)]; exact z
      by_cases f : sd_ok kf kk fw fv mv mm t (13 * t + e) 0 ∧ sd_ok kf kk fw fv mv mm t (13 * t + e) 1
      · obtain ⟨l, hl, el⟩ := sd_LNr hE hF ht (show e < 12 by omega) z
        obtain ⟨r, hr, er⟩ := (hE.2.2.1 (13 * t + e) (by omega)).2.1
        have er' : ens ((13 * t + e) * 5 + 0) = nI r := ((hE.2.2.1 (13 * t + e) (by omega)).1.1).trans er
        have elx : sd_ln kf kk fw mm t (13 * t + e) 0 + sd_ln kf kk fw mm t (13 * t + e) 1 = nI l := el
        -- taken or left
        by_cases bt' : xr < nI r ∨ (nI r = xr ∧ ¬ nI l ≤ xo)
        · obtain ⟨xc', row, k1, k2, k3⟩ := ih (e + 1) (by omega) (nI e) (nI r) (nI l) (nI (13 * t + e)) (Or.inr ⟨e, r, l, by omega, hr, hl, rfl, rfl, rfl, rfl, er, el⟩)
          refine ⟨xc', row, k1, fun post hp => br_f nx (nm_r (sd_13' t e) ⟨v52, br_f zx (sx_pf hE ht (by omega) (fun _ _ => ?_) (fun y => absurd f y))⟩), fun post hp => br_f ny ⟨v52, br_f zx (sy_fit hE ht (by omega) (fun _ _ => sd_w1 ?_) (fun y => absurd f y))⟩⟩
          · rw [elx]
            exact sx_47b (by omega) er' (by omega) (fun _ => k2 post hp) (fun y => absurd bt' y)
          · rcases hb with ⟨h1, h2, h3, h4⟩ | ⟨e0, r0, l0, he0, hr0, hl0, h1, h2, h3, h4, h5, h6⟩
            · rw [h4]
              exact br_f (by decide) (br_f sd_10 (br_f (by decide) (nm_r (nI_1 _) (k3 post hp))))
            · rw [h4]
              refine br_t (nI_pos' (by omega)) ⟨v52, vp_in_nI (by omega) (by decide), ?_⟩
              rw [nI_clamp (n := 13 * t + e) (by omega), nI_clamp (n := 13 * t + e0) (by omega), er, h5]
              rw [h2, h3, nI_ltI (by omega) (by omega), nI_eq (by omega) (by omega), nI_leI (by omega) (by omega)] at bt'
              refine br_c (fun y => ?_) (fun y => br_f ?_ (nm_r (nI_1 _) (k3 post hp)))
              · rw [sd_sz (by omega) (by omega)] at y
                refine sy_len hE ht (by omega) (sy_len hE ht (by omega) ?_)
                rw [elx]
                have h6' : sd_ln kf kk fw mm t (13 * t + e0) 0 + sd_ln kf kk fw mm t (13 * t + e0) 1 = nI l0 := h6
                rw [h6']
                refine nm_e (br_f ?_ (nm_r (nI_1 _) (k3 post hp)))
                rw [sd_sle (by omega) (by omega)]
                omega
              · rw [sd_sz (by omega) (by omega)] at y
                rw [sd_sle (by omega) (by omega)]
                omega
        · obtain ⟨xc', row, k1, k2, k3⟩ := ih (e + 1) (by omega) xc xr xo yb' hb
          refine ⟨xc', row, k1, fun post hp => br_f nx (nm_r (sd_13' t e) ⟨v52, br_f zx (sx_pf hE ht (by omega) (fun _ _ => ?_) (fun y => absurd f y))⟩), fun post hp => br_f ny ⟨v52, br_f zx (sy_fit hE ht (by omega) (fun _ _ => sd_w1 ?_) (fun y => absurd f y))⟩⟩
          · rw [elx]
            exact sx_47b (by omega) er' (by omega) (fun y => absurd y bt') (fun _ => k2 post hp)
          · rcases hb with ⟨h1, h2, h3, h4⟩ | ⟨e0, r0, l0, he0, hr0, hl0, h1, h2, h3, h4, h5, h6⟩
            · exfalso
              apply bt'
              left
              rw [h2, sd_ltI, nI_toInt (by omega)]
              have e1 : (-1 : Int32).toInt = -1 := by decide
              omega
            · rw [h4]
              refine br_t (nI_pos' (by omega)) ⟨v52, vp_in_nI (by omega) (by decide), ?_⟩
              rw [nI_clamp (n := 13 * t + e) (by omega), nI_clamp (n := 13 * t + e0) (by omega), er, h5]
              rw [h2, h3, nI_ltI (by omega) (by omega), nI_eq (by omega) (by omega), nI_leI (by omega) (by omega)] at bt'
              rw [h4] at k3
              refine br_c (fun y => ?_) (fun y => br_t ?_ (nm_r (nI_1 _) (k3 post hp)))
              · rw [sd_sz (by omega) (by omega)] at y
                refine sy_len hE ht (by omega) (sy_len hE ht (by omega) ?_)
                rw [elx]
                have h6' : sd_ln kf kk fw mm t (13 * t + e0) 0 + sd_ln kf kk fw mm t (13 * t + e0) 1 = nI l0 := h6
                rw [h6']
                refine nm_e (br_t ?_ (nm_r (nI_1 _) (k3 post hp)))
                rw [sd_sle (by omega) (by omega)]
                omega
              · rw [sd_sz (by omega) (by omega)] at y
                rw [sd_sle (by omega) (by omega)]
                omega
      · obtain ⟨xc', row, k1, k2, k3⟩ := ih (e + 1) (by omega) xc xr xo yb' hb
        refine ⟨xc', row, k1, fun post hp => br_f nx (nm_r (sd_13' t e) ⟨v52, br_f zx (sx_pf hE ht (by omega) (fun a b => absurd ⟨a, b⟩ f) (fun _ => sx_47s (by omega) (k2 post hp)))⟩), fun post hp => br_f ny ⟨v52, br_f zx (sy_fit hE ht (by omega) (fun a b => absurd ⟨a, b⟩ f) (fun _ => sd_w0 (nm_r (nI_1 _) (k3 post hp))))⟩⟩
theorem sd_choose (hE : sd_E kf kk th ens mm ra ac ea eb ch) (hF : sd_F fw fv hv) {t : Nat} (ht : t < 4) :
    ∃ (xc' : Int32) (row : Nat), ((xc' = -1 ∧ row = 13 * t + 12) ∨ ∃ e' : Nat, e' < 12 ∧ xc' = nI e' ∧ row = 13 * t + e') ∧
    (∀ post : Int32 → Prop, post xc' → wpX_chooseEntry post (sc, oc, bt, bb, da, ag, lo, tp, sb, sd, tk, fw, fv, hv, sts, ops, opn, rg, kf, kk, th, ens, mv, mm, sps, ho, pb, pz, rc, mr, md, mt, gp, qc, qq, qe, lc, tq) (nI t)) ∧ (∀ post : Int32 → Prop, post (nI row) → wpY_choose post (sc, oc, tl, tt, bt, ma, ol, tp, sb, sd, tk, dr, ay, gl, fw, fv, hv, ta, lk, go, ca, cv, cm, cg, opn, ow, oq, ox, rg, sw, sa, sz, sg, ho, kf, kk, ra, ac, ea, eb, ch, th, mv, mm, ty, bi, mk, rc, mr, md, mt, gp, yb, le, qc, qe, qq, tq, lc, gt) (nI t)) := by
  obtain ⟨xc', row, k1, k2, k3⟩ := sd_ch1 (sc := sc) (oc := oc) (bt := bt) (bb := bb) (da := da) (ag := ag) (lo := lo) (tp := tp) (sb := sb) (sd := sd) (tk := tk) (fw := fw) (fv := fv) (hv := hv) (sts := sts) (ops := ops) (opn := opn) (rg := rg) (kf := kf) (kk := kk) (th := th) (ens := ens) (mv := mv) (mm := mm) (sps := sps) (ho := ho) (pb := pb) (pz := pz) (rc := rc) (mr := mr) (md := md) (mt := mt) (gp := gp) (qc := qc) (qq := qq) (qe := qe) (lc := lc) (tq := tq) (tl := tl) (tt := tt) (ma := ma) (ol := ol) (dr := dr) (ay := ay) (gl := gl) (ta := ta) (lk := lk) (go := go) (ca := ca) (cv := cv) (cm := cm) (cg := cg) (ow := ow) (oq := oq) (ox := ox) (sw := sw) (sa := sa) (sz := sz) (sg := sg) (ra := ra) (ac := ac) (ea := ea) (eb := eb) (ch := ch) (ty := ty) (bi := bi) (mk := mk) (yb := yb) (le := le) (gt := gt) hE hF ht 12 0 (by omega) (-1) (-1) (-1) (-1) (Or.inl ⟨rfl, rfl, rfl, rfl⟩)
  exact ⟨xc', row, k1, fun post hp => ⟨13, k2 post hp⟩, fun post hp => nm_r (pk_mul 13 t) ⟨13, k3 post hp⟩⟩
theorem sd_actw {a Z : Nat} {p q : Int32} (hF : sd_F fw fv hv) (hO : sd_O ops opn ow oq ox) (hZ : Z ≤ 16) (hz : pz 49 = nI Z) (ha : a < 8) :
    ∃ (da' ag' : Int32) (fv' hv' rg' mt' : Nat → Int32), sd_F fw fv' hv' ∧ (∀ post : SX → Prop, post (sc, oc, bt, bb, da', ag', lo, tp, sb, sd, tk, fw, fv', hv', sts, ops, opn, rg', kf, kk, th, ens, mv, mm, sps, ho, pb, pz, rc, mr, md, mt', gp, qc, qq, qe, lc, tq) → wpX_doAction post (sc, oc, bt, bb, da, ag, lo, tp, sb, sd, tk, fw, fv, hv, sts, ops, opn, rg, kf, kk, th, ens, mv, mm, sps, ho, pb, pz, rc, mr, md, mt, gp, qc, qq, qe, lc, tq) (nI a) p q) ∧ (∀ post : SY → Prop, post (sc, oc, tl, (nI (8 * Z)), bt, ma, ol, tp, sb, sd, tk, da', ag', gl, fw, fv', hv', ta, lk, go, ca, cv, cm, cg, opn, ow, oq, ox, rg', sw, sa, sz, sg, ho, kf, kk, ra, ac, ea, eb, ch, th, mv, mm, ty, bi, mk, rc, mr, md, mt', gp, yb, le, qc, qe, qq, tq, lc, gt) → wpY_act post (sc, oc, tl, (nI (8 * Z)), bt, ma, ol, tp, sb, sd, tk, da, ag, gl, fw, fv, hv, ta, lk, go, ca, cv, cm, cg, opn, ow, oq, ox, rg, sw, sa, sz, sg, ho, kf, kk, ra, ac, ea, eb, ch, th, mv, mm, ty, bi, mk, rc, mr, md, mt, gp, yb, le, qc, qe, qq, tq, lc, gt) (nI a) p q) := by
  obtain ⟨N, hN, hn⟩ := hO.1 a ha
  obtain ⟨da', ag', fv', hv', rg', mt', k1, k2, k3⟩ := sd_act (sc := sc) (oc := oc) (bt := bt) (bb := bb) (lo := lo) (tp := tp) (sb := sb) (sd := sd) (tk := tk) (fw := fw) (sts := sts) (ops := ops) (opn := opn) (kf := kf) (kk := kk) (th := th) (ens := ens) (mv := mv) (mm := mm) (sps := sps) (ho := ho) (pb := pb) (pz := pz) (rc := rc) (mr := mr) (md := md) (gp := gp) (qc := qc) (qq := qq) (qe := qe) (lc := lc) (tq := tq) (tl := tl) (ma := ma) (ol := ol) (gl := gl) (ta := ta) (lk := lk) (go := go) (ca := ca) (cv := cv) (cm := cm) (cg := cg) (ow := ow) (oq := oq) (ox := ox) (sw := sw) (sa := sa) (sz := sz) (sg := sg) (ra := ra) (ac := ac) (ea := ea) (eb := eb) (ch := ch) (ty := ty) (bi := bi) (mk := mk) (yb := yb) (le := le) (gt := gt) (p := p) (q := q) hO hZ hz ha (by omega) hn N 0 da ag fv hv rg mt (by omega) hF
  refine ⟨da', ag', fv', hv', rg', mt', k1, fun post hp => ⟨vp_in_nI ha (by decide), ?_⟩, fun post hp => nm_r (pk_mul 5 a) ⟨N + 1, k3 post hp⟩⟩
  rw [nI_clamp (n := a) (by omega)]
  exact nm_r hn ⟨N + 1, k2 post hp⟩
theorem sd_Et (hE : sd_E kf kk th ens mm ra ac ea eb ch) {x : Nat} (hx : x < 52) {y : Int32} : sd_E kf kk th (upd ens (x * 5 + 4) y) mm ra ac ea eb (upd ch x y) := by
  refine ⟨hE.1, hE.2.1, fun z hz => ?_, hE.2.2.2⟩
  obtain ⟨⟨h0, h1, h2, h3, h4⟩, h5, h6⟩ := hE.2.2.1 z hz
  by_cases e : z = x
  · subst e
    simp (disch := omega) only [pk_us, pk_un]
    exact ⟨⟨h0, h1, h2, h3, trivial⟩, h5, h6⟩
  · simp (disch := omega) only [pk_un]
    exact ⟨⟨h0, h1, h2, h3, h4⟩, h5, h6⟩
end
