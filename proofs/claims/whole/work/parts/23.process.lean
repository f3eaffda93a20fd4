section
variable {sc oc bt bb da ag lo tp sb sd tk : Int32} {fw fv hv sts ops opn rg kf kk th ens mv mm sps ho pb pz rc mr md mt gp qc qq qe lc tq : Nat → Int32} {tl tt ma ol dr ay gl : Int32} {ta lk go ca cv cm cg ow oq ox sw sa sz sg ra ac ea eb ch ty bi mk yb le gt : Nat → Int32}
/-- Y: the built bits become the packet's bits -/
def sd_cb (a b : Nat → Int32) : Nat → (Nat → Int32)
  | 0 => a
  | i + 1 => upd (sd_cb a b i) i (b i)
theorem sd_cbi {a b : Nat → Int32} : ∀ i j, j < i → sd_cb a b i j = b j
  | 0, j, h => absurd h (by omega)
  | i + 1, j, h => by
    show upd (sd_cb a b i) i (b i) j = _
    by_cases e : j = i
    · subst e; rw [pk_us]
    · rw [pk_un e]; exact sd_cbi i j (by omega)
theorem sy_p99b {post : Int32 → SY → Prop} {L : Nat} {pb : Nat → Int32} (hL : L ≤ 16) (hI : sd_BI (8 * L) pb mk) (hp : post 3 (sc, oc, tl, (nI (8 * L)), bt, ma, ol, tp, sb, sd, tk, dr, ay, gl, fw, fv, hv, ta, lk, go, ca, cv, cm, cg, opn, ow, oq, ox, rg, sw, sa, sz, sg, ho, kf, kk, ra, ac, ea, eb, ch, th, mv, mm, ty, (sd_cb bi mk (8 * L)), mk, rc, mr, md, mt, gp, yb, le, qc, qe, qq, tq, lc, gt)) : ∃ n, wY_pass_99 post sc oc tl (nI (8 * L)) bt ma ol tp sb sd tk dr ay gl n 0 fw fv hv ta lk go ca cv cm cg opn ow oq ox rg sw sa sz sg ho kf kk ra ac ea eb ch th mv mm ty bi mk rc mr md mt gp yb le qc qe qq tq lc gt := by
  refine sd_lp (fun n i s => wY_pass_99 post sc oc tl (nI (8 * L)) bt ma ol tp sb sd tk dr ay gl n (nI i) fw fv hv ta lk go ca cv cm cg opn ow oq ox rg sw sa sz sg ho kf kk ra ac ea eb ch th mv mm ty s mk rc mr md mt gp yb le qc qe qq tq lc gt) (fun i => sd_cb bi mk i) (8 * L) 0 (by omega) (fun n => br_t (nI_le (Nat.le_refl _) (by omega)) hp) (fun n i _ hi ih => br_f (nI_ge hi (by omega)) ⟨vp_in_nI (by omega) (by decide), ?_⟩)
  obtain ⟨m, h1, h2, h3⟩ := hI
  have e : vp_nar .boolean (mk i) = mk i := by rw [h2 i hi]; exact sd_bn _
  rw [nI_clamp (by omega), e]
  exact ⟨vp_in_nI (by omega) (by decide), nm_e (nm_r (nI_1 i) ih)⟩
theorem sd_pr {N R : Nat} (hS : sd_S sts ta lk go ca cv cm cg) (hO : sd_O ops opn ow oq ox) (hA : ∀ i, i < 16 → sps (i * 4) = sw i ∧ sps (i * 4 + 1) = sa i ∧ sps (i * 4 + 2) = sz i ∧ sps (i * 4 + 3) = sg i) (hB : ∀ i, i < N → sd_sp i (sw i) (sa i) (sz i) (sg i)) (hN : N ≤ 16) (hR : R ≤ 6) (hho : ∀ i, i < 6 → sd_rg 6 (ho i)) :
    ∀ (d ti Z : Nat) (bt bb da ag sb sd ma dr ay : Int32) (fv hv rg mt ens pb pz ch bi mk : Nat → Int32), ti + d = 3 → Z ≤ 16 → pz 49 = nI Z → (∀ i, i < 8 * Z → bi i = sd_bv (pb (784 + i / 8)) (i % 8)) → sd_F fw fv hv → sd_E kf kk th ens mm ra ac ea eb ch → ∃ (rr : Nat) (bt' bb' da' ag' tp' sb' sd' tt' ma' dr' ay' : Int32) (fv' hv' rg' mt' ens' pb' pz' ch' bi' mk' : Nat → Int32), rr < 3 ∧ sd_F fw fv' hv' ∧ sd_E kf kk th ens' mm ra ac ea eb ch' ∧ (∀ j, (j < 784 ∨ 816 ≤ j) → pb' j = pb j) ∧ (∀ s, s ≠ 49 → s ≠ 50 → pz' s = pz s) ∧ (rr = 0 → ∃ L : Nat, L ≤ 16 ∧ ma' = nI (8 * L) ∧ pz' 50 = nI L ∧ ∀ k, k < L → pb' (800 + k) = sd_ac mk' (8 * k) 8) ∧ (∀ post : Int32 → SX → Prop, post (nI rr) ((nI N), (nI R), bt', bb', da', ag', lo, tp', sb', sd', tk, fw, fv', hv', sts, ops, opn, rg', kf, kk, th, ens', mv, mm, sps, ho, pb', pz', rc, mr, md, mt', gp, qc, qq, qe, lc, tq) → wX_processPacket_2 post (d + 2) (nI ti) (nI N) (nI R) bt bb da ag lo (nI ti) sb sd tk fw fv hv sts ops opn rg kf kk th ens mv mm sps ho pb pz rc mr md mt gp qc qq qe lc tq) ∧ (∀ (post : Int32 → SY → Prop) (m : Nat), d + 1 < m → (∀ m' : Nat, wY_send_119 post (m' + 1) (nI rr) (nI N) (nI R) tl tt' bt' ma' ol tp' sb' sd' tk dr' ay' gl fw fv' hv' ta lk go ca cv cm cg opn ow oq ox rg' sw sa sz sg ho kf kk ra ac ea eb ch' th mv mm ty bi' mk' rc mr md mt' gp yb le qc qe qq tq lc gt) → wY_send_119 post m 3 (nI N) (nI R) tl (nI (8 * Z)) bt ma ol (nI ti) sb sd tk dr ay gl fw fv hv ta lk go ca cv cm cg opn ow oq ox rg sw sa sz sg ho kf kk ra ac ea eb ch th mv mm ty bi mk rc mr md mt gp yb le qc qe qq tq lc gt) := by
  intro d
  induction d with
  | zero =>
    intro ti Z bt bb da ag sb sd ma dr ay fv hv rg mt ens pb pz ch bi mk hti hZ hz hb hF hE
    obtain ⟨r, sb1, b1, fv1, hv1, p1, p2, p3, p4, p5, p6⟩ := sd_parse (sc := (nI N)) (oc := (nI R)) (bt := bt) (bb := bb) (da := da) (ag := ag) (lo := lo) (tp := (nI ti)) (sb := sb) (sd := sd) (tk := tk) (fw := fw) (fv := fv) (hv := hv) (sts := sts) (ops := ops) (opn := opn) (rg := rg) (kf := kf) (kk := kk) (th := th) (ens := ens) (mv := mv) (mm := mm) (sps := sps) (ho := ho) (pb := pb) (pz := pz) (rc := rc) (mr := mr) (md := md) (mt := mt) (gp := gp) (qc := qc) (qq := qq) (qe := qe) (lc := lc) (tq := tq) (tl := tl) (ma := ma) (ol := ol) (dr := 0) (ay := 0) (gl := gl) (ta := ta) (lk := lk) (go := go) (ca := ca) (cv := cv) (cm := cm) (cg := cg) (ow := ow) (oq := oq) (ox := ox) (sw := sw) (sa := sa) (sz := sz) (sg := sg) (ra := ra) (ac := ac) (ea := ea) (eb := eb) (ch := ch) (ty := ty) (bi := bi) (mk := mk) (yb := yb) (le := le) (gt := gt) hF hS hZ hz hb
    rw [nI_1] at p5 p6
    have t4 : ¬ 4 ≤ nI ti := nI_ge (b := 4) (by omega) (by decide)
    rcases p1 with p1 | p1
    · subst p1
      refine ⟨2, nI b1, bb, da, ag, nI (ti + 1), sb1, sd, nI (8 * Z), ma, 0, 0, fv1, hv1, rg, mt, ens, pb, pz, ch, bi, mk, by omega, p3, hE, fun _ _ => rfl, fun _ _ _ => rfl, fun z => absurd z (by omega), fun post hp => br_f t4 (p5 _ (br_t rfl hp)), fun post m hm hp => ?_⟩
      obtain ⟨m2, rfl⟩ : ∃ m2, m = m2 + 1 + 1 := ⟨m - 2, by omega⟩
      exact br_t rfl (p6 _ (br_t rfl (hp m2)))
    · subst p1
      obtain ⟨sd2, da2, ag2, fv2, hv2, rg2, mt2, ens2, ch2, l1, l2, l3, l4⟩ := sd_steps (oc := (nI R)) (bt := (nI b1)) (bb := bb) (lo := lo) (tp := (nI (ti + 1))) (sb := sb1) (tk := tk) (fw := fw) (sts := sts) (ops := ops) (opn := opn) (kf := kf) (kk := kk) (th := th) (mv := mv) (mm := mm) (sps := sps) (ho := ho) (pb := pb) (pz := pz) (rc := rc) (mr := mr) (md := md) (gp := gp) (qc := qc) (qq := qq) (qe := qe) (lc := lc) (tq := tq) (tl := tl) (ma := ma) (ol := ol) (gl := gl) (ta := ta) (lk := lk) (go := go) (ca := ca) (cv := cv) (cm := cm) (cg := cg) (ow := ow) (oq := oq) (ox := ox) (sw := sw) (sa := sa) (sz := sz) (sg := sg) (ra := ra) (ac := ac) (ea := ea) (eb := eb) (ty := ty) (bi := bi) (mk := mk) (yb := yb) (le := le) (gt := gt) hO hA hB hN hZ hz N 0 0 sd 0 0 fv1 hv1 rg mt ens ch (by omega) (by omega) (by omega) p3 hE
      -- X's and Y's way to the end of the steps
      have X : ∀ post : Int32 → SX → Prop, ((da2 = 0 → wpX_buildPacket (fun u => match u with | (sc, oc, bt, bb, da, ag, lo, tp, sb, sd, tk, fw, fv, hv, sts, ops, opn, rg, kf, kk, th, ens, mv, mm, sps, ho, pb, pz, rc, mr, md, mt, gp, qc, qq, qe, lc, tq) => (((bb ≤ 128 → (((ag = 0 → (post 0 (sc, oc, bt, bb, da, ag, lo, tp, sb, sd, tk, fw, fv, hv, sts, ops, opn, rg, kf, kk, th, ens, mv, mm, sps, ho, pb, pz, rc, mr, md, mt, gp, qc, qq, qe, lc, tq))) ∧ (¬ ag = 0 → (wpX_copyPacket (fun u => match u with | (sc, oc, bt, bb, da, ag, lo, tp, sb, sd, tk, fw, fv, hv, sts, ops, opn, rg, kf, kk, th, ens, mv, mm, sps, ho, pb, pz, rc, mr, md, mt, gp, qc, qq, qe, lc, tq) => (∀ x1_162, x1_162 = nI ti + 1 → (wX_processPacket_2 post (0 + 1) x1_162 sc oc bt bb da ag lo tp sb sd tk fw fv hv sts ops opn rg kf kk th ens mv mm sps ho pb pz rc mr md mt gp qc qq qe lc tq))) (sc, oc, bt, bb, da, ag, lo, tp, sb, sd, tk, fw, fv, hv, sts, ops, opn, rg, kf, kk, th, ens, mv, mm, sps, ho, pb, pz, rc, mr, md, mt, gp, qc, qq, qe, lc, tq) 50 49))))) ∧ (¬ bb ≤ 128 → (post 1 (sc, oc, bt, bb, da, ag, lo, tp, sb, sd, tk, fw, fv, hv, sts, ops, opn, rg, kf, kk, th, ens, mv, mm, sps, ho, pb, pz, rc, mr, md, mt, gp, qc, qq, qe, lc, tq)))))) ((nI N), (nI R), (nI b1), bb, da2, ag2, lo, (nI (ti + 1)), sb1, sd2, tk, fw, fv2, hv2, sts, ops, opn, rg2, kf, kk, th, ens2, mv, mm, sps, ho, pb, pz, rc, mr, md, mt2, gp, qc, qq, qe, lc, tq)) ∧ (¬ da2 = 0 → post 1 ((nI N), (nI R), (nI b1), bb, da2, ag2, lo, (nI (ti + 1)), sb1, sd2, tk, fw, fv2, hv2, sts, ops, opn, rg2, kf, kk, th, ens2, mv, mm, sps, ho, pb, pz, rc, mr, md, mt2, gp, qc, qq, qe, lc, tq))) → wX_processPacket_2 post (0 + 2) (nI ti) (nI N) (nI R) bt bb da ag lo (nI ti) sb sd tk fw fv hv sts ops opn rg kf kk th ens mv mm sps ho pb pz rc mr md mt gp qc qq qe lc tq := by
        intro post hp
        exact br_f t4 (p5 _ (br_f sd_10 ⟨N + 1, l3 _ hp⟩))
      have Y : ∀ (post : Int32 → SY → Prop), (∀ (m' j' : Nat), N ≤ j' → j' ≤ 16 → wY_pass_23 post (m' + 1) (nI j') (nI N) (nI R) tl (nI (8 * Z)) (nI b1) ma ol (nI (ti + 1)) sb1 sd2 tk da2 ag2 gl fw fv2 hv2 ta lk go ca cv cm cg opn ow oq ox rg2 sw sa sz sg ho kf kk ra ac ea eb ch2 th mv mm ty bi mk rc mr md mt2 gp yb le qc qe qq tq lc gt) → wpY_pass post ((nI N), (nI R), tl, (nI (8 * Z)), bt, ma, ol, (nI ti), sb, sd, tk, dr, ay, gl, fw, fv, hv, ta, lk, go, ca, cv, cm, cg, opn, ow, oq, ox, rg, sw, sa, sz, sg, ho, kf, kk, ra, ac, ea, eb, ch, th, mv, mm, ty, bi, mk, rc, mr, md, mt, gp, yb, le, qc, qe, qq, tq, lc, gt) := by
        intro post hp
        exact p6 _ (br_f sd_10 ⟨N + 1, l4 _ (N + 1) (by omega) hp⟩)
      by_cases z : da2 = 0
      · obtain ⟨B, L, pb3, mk3, q1, q2, q3, q4, q5, q6⟩ := sd_build (sc := (nI N)) (bb := bb) (da := da2) (ag := ag2) (lo := lo) (tp := (nI (ti + 1))) (sb := sb1) (sd := sd2) (tk := tk) (fw := fw) (fv := fv2) (hv := hv2) (sts := sts) (ops := ops) (opn := opn) (rg := rg2) (kf := kf) (kk := kk) (th := th) (ens := ens2) (mv := mv) (mm := mm) (sps := sps) (ho := ho) (pb := pb) (pz := pz) (rc := rc) (mr := mr) (md := md) (mt := mt2) (gp := gp) (qc := qc) (qq := qq) (qe := qe) (lc := lc) (tq := tq) (tl := tl) (ma := ma) (ol := ol) (dr := da2) (ay := ag2) (gl := gl) (ta := ta) (lk := lk) (go := go) (ca := ca) (cv := cv) (cm := cm) (cg := cg) (ow := ow) (oq := oq) (ox := ox) (sw := sw) (sa := sa) (sz := sz) (sg := sg) (ra := ra) (ac := ac) (ea := ea) (eb := eb) (ch := ch2) (ty := ty) (bi := bi) (mk := mk) (yb := yb) (le := le) (gt := gt) l1 hR hho hZ p2 hz hb
        by_cases zB : B ≤ 128
        · have hL : L ≤ 16 := by omega
          rw [if_pos zB] at q5
          have n128 : ¬ 128 < nI (8 * L) := nI_nlt (a := 128) (by omega) (by decide)
          have b128 : nI B ≤ 128 := nI_le (b := 128) zB (by decide)
          by_cases za : ag2 = 0
          · refine ⟨0, nI b1, nI B, da2, ag2, nI (ti + 1), sb1, sd2, nI (8 * Z), nI (8 * L), da2, ag2, fv2, hv2, rg2, mt2, ens2, pb3, upd pz 50 (nI L), ch2, bi, mk3, by omega, l1, l2, fun j hj => q4 j (by omega), fun s h49 h50 => pk_un h50, fun _ => ⟨L, hL, rfl, pk_us, fun k hk => sd_BIa q3 (by omega) (by omega)⟩, fun post hp => X post (br_t z (q5 _ (br_t b128 (br_t za hp)))), fun post m hm hp => ?_⟩
            obtain ⟨m2, rfl⟩ : ∃ m2, m = m2 + 1 + 1 := ⟨m - 2, by omega⟩
            exact br_t rfl (Y _ (fun m' j' j1 j2 => br_t (nI_le j1 (by omega)) (br_t z (q6 _ (br_f n128 (br_t za (br_t za (hp m2))))))))
          · have t3 : ti = 3 := by omega
            subst t3
            refine ⟨1, nI b1, nI B, da2, ag2, nI (3 + 1), sb1, sd2, nI (8 * Z), nI (8 * L), da2, ag2, fv2, hv2, rg2, mt2, ens2, sd_cp pb3 50 49 L, upd (upd pz 50 (nI L)) 49 (nI L), ch2, bi, mk3, by omega, l1, l2, fun j hj => by rw [sd_cpo L j (by omega)]; exact q4 j (by omega), fun s h49 h50 => by rw [pk_un h49, pk_un h50], fun z => absurd z (by omega), fun post hp => X post (br_t z (q5 _ (br_t b128 (br_f za (sx_copy (f := 50) (t := 49) (by omega) (by omega) hL pk_us (nm_r (nI_1 3) (br_t (by decide) hp))))))), fun post m hm hp => ?_⟩
            obtain ⟨m2, rfl⟩ : ∃ m2, m = m2 + 1 + 1 := ⟨m - 2, by omega⟩
            exact br_t rfl (Y _ (fun m' j' j1 j2 => br_t (nI_le j1 (by omega)) (br_t z (q6 _ (br_f n128 (br_f za (br_t rfl (hp m2))))))))
        · rw [if_neg zB] at q5
          have n128 : 128 < nI (8 * L) := nI_lt (a := 128) (by omega) (by omega)
          have b128 : ¬ nI B ≤ 128 := nI_ge (a := 128) (by omega) (by omega)
          refine ⟨1, nI b1, nI B, da2, ag2, nI (ti + 1), sb1, sd2, nI (8 * Z), nI (8 * L), da2, ag2, fv2, hv2, rg2, mt2, ens2, pb3, upd pz 50 0, ch2, bi, mk3, by omega, l1, l2, fun j hj => q4 j (by omega), fun s h49 h50 => pk_un h50, fun z => absurd z (by omega), fun post hp => X post (br_t z (q5 _ (br_f b128 hp))), fun post m hm hp => ?_⟩
          obtain ⟨m2, rfl⟩ : ∃ m2, m = m2 + 1 + 1 := ⟨m - 2, by omega⟩
          exact br_t rfl (Y _ (fun m' j' j1 j2 => br_t (nI_le j1 (by omega)) (br_t z (q6 _ (br_t n128 (hp m2))))))
      · refine ⟨1, nI b1, bb, da2, ag2, nI (ti + 1), sb1, sd2, nI (8 * Z), ma, da2, ag2, fv2, hv2, rg2, mt2, ens2, pb, pz, ch2, bi, mk, by omega, l1, l2, fun _ _ => rfl, fun _ _ _ => rfl, fun z => absurd z (by omega), fun post hp => X post (br_f z hp), fun post m hm hp => ?_⟩
        obtain ⟨m2, rfl⟩ : ∃ m2, m = m2 + 1 + 1 := ⟨m - 2, by omega⟩
        exact br_t rfl (Y _ (fun m' j' j1 j2 => br_t (nI_le j1 (by omega)) (br_f z (hp m2))))
  | succ d ih =>
    intro ti Z bt bb da ag sb sd ma dr ay fv hv rg mt ens pb pz ch bi mk hti hZ hz hb hF hE
    obtain ⟨r, sb1, b1, fv1, hv1, p1, p2, p3, p4, p5, p6⟩ := sd_parse (sc := (nI N)) (oc := (nI R)) (bt := bt) (bb := bb) (da := da) (ag := ag) (lo := lo) (tp := (nI ti)) (sb := sb) (sd := sd) (tk := tk) (fw := fw) (fv := fv) (hv := hv) (sts := sts) (ops := ops) (opn := opn) (rg := rg) (kf := kf) (kk := kk) (th := th) (ens := ens) (mv := mv) (mm := mm) (sps := sps) (ho := ho) (pb := pb) (pz := pz) (rc := rc) (mr := mr) (md := md) (mt := mt) (gp := gp) (qc := qc) (qq := qq) (qe := qe) (lc := lc) (tq := tq) (tl := tl) (ma := ma) (ol := ol) (dr := 0) (ay := 0) (gl := gl) (ta := ta) (lk := lk) (go := go) (ca := ca) (cv := cv) (cm := cm) (cg := cg) (ow := ow) (oq := oq) (ox := ox) (sw := sw) (sa := sa) (sz := sz) (sg := sg) (ra := ra) (ac := ac) (ea := ea) (eb := eb) (ch := ch) (ty := ty) (bi := bi) (mk := mk) (yb := yb) (le := le) (gt := gt) hF hS hZ hz hb
    rw [nI_1] at p5 p6
    have t4 : ¬ 4 ≤ nI ti := nI_ge (b := 4) (by omega) (by decide)
    rcases p1 with p1 | p1
    · subst p1
      refine ⟨2, nI b1, bb, da, ag, nI (ti + 1), sb1, sd, nI (8 * Z), ma, 0, 0, fv1, hv1, rg, mt, ens, pb, pz, ch, bi, mk, by omega, p3, hE, fun _ _ => rfl, fun _ _ _ => rfl, fun z => absurd z (by omega), fun post hp => br_f t4 (p5 _ (br_t rfl hp)), fun post m hm hp => ?_⟩
      obtain ⟨m2, rfl⟩ : ∃ m2, m = m2 + 1 + 1 := ⟨m - 2, by omega⟩
      exact br_t rfl (p6 _ (br_t rfl (hp m2)))
    · subst p1
      obtain ⟨sd2, da2, ag2, fv2, hv2, rg2, mt2, ens2, ch2, l1, l2, l3, l4⟩ := sd_steps (oc := (nI R)) (bt := (nI b1)) (bb := bb) (lo := lo) (tp := (nI (ti + 1))) (sb := sb1) (tk := tk) (fw := fw) (sts := sts) (ops := ops) (opn := opn) (kf := kf) (kk := kk) (th := th) (mv := mv) (mm := mm) (sps := sps) (ho := ho) (pb := pb) (pz := pz) (rc := rc) (mr := mr) (md := md) (gp := gp) (qc := qc) (qq := qq) (qe := qe) (lc := lc) (tq := tq) (tl := tl) (ma := ma) (ol := ol) (gl := gl) (ta := ta) (lk := lk) (go := go) (ca := ca) (cv := cv) (cm := cm) (cg := cg) (ow := ow) (oq := oq) (ox := ox) (sw := sw) (sa := sa) (sz := sz) (sg := sg) (ra := ra) (ac := ac) (ea := ea) (eb := eb) (ty := ty) (bi := bi) (mk := mk) (yb := yb) (le := le) (gt := gt) hO hA hB hN hZ hz N 0 0 sd 0 0 fv1 hv1 rg mt ens ch (by omega) (by omega) (by omega) p3 hE
      -- X's and Y's way to the end of the steps
      have X : ∀ post : Int32 → SX → Prop, ((da2 = 0 → wpX_buildPacket (fun u => match u with | (sc, oc, bt, bb, da, ag, lo, tp, sb, sd, tk, fw, fv, hv, sts, ops, opn, rg, kf, kk, th, ens, mv, mm, sps, ho, pb, pz, rc, mr, md, mt, gp, qc, qq, qe, lc, tq) => (((bb ≤ 128 → (((ag = 0 → (post 0 (sc, oc, bt, bb, da, ag, lo, tp, sb, sd, tk, fw, fv, hv, sts, ops, opn, rg, kf, kk, th, ens, mv, mm, sps, ho, pb, pz, rc, mr, md, mt, gp, qc, qq, qe, lc, tq))) ∧ (¬ ag = 0 → (wpX_copyPacket (fun u => match u with | (sc, oc, bt, bb, da, ag, lo, tp, sb, sd, tk, fw, fv, hv, sts, ops, opn, rg, kf, kk, th, ens, mv, mm, sps, ho, pb, pz, rc, mr, md, mt, gp, qc, qq, qe, lc, tq) => (∀ x1_162, x1_162 = nI ti + 1 → (wX_processPacket_2 post (d + 1 + 1) x1_162 sc oc bt bb da ag lo tp sb sd tk fw fv hv sts ops opn rg kf kk th ens mv mm sps ho pb pz rc mr md mt gp qc qq qe lc tq))) (sc, oc, bt, bb, da, ag, lo, tp, sb, sd, tk, fw, fv, hv, sts, ops, opn, rg, kf, kk, th, ens, mv, mm, sps, ho, pb, pz, rc, mr, md, mt, gp, qc, qq, qe, lc, tq) 50 49))))) ∧ (¬ bb ≤ 128 → (post 1 (sc, oc, bt, bb, da, ag, lo, tp, sb, sd, tk, fw, fv, hv, sts, ops, opn, rg, kf, kk, th, ens, mv, mm, sps, ho, pb, pz, rc, mr, md, mt, gp, qc, qq, qe, lc, tq)))))) ((nI N), (nI R), (nI b1), bb, da2, ag2, lo, (nI (ti + 1)), sb1, sd2, tk, fw, fv2, hv2, sts, ops, opn, rg2, kf, kk, th, ens2, mv, mm, sps, ho, pb, pz, rc, mr, md, mt2, gp, qc, qq, qe, lc, tq)) ∧ (¬ da2 = 0 → post 1 ((nI N), (nI R), (nI b1), bb, da2, ag2, lo, (nI (ti + 1)), sb1, sd2, tk, fw, fv2, hv2, sts, ops, opn, rg2, kf, kk, th, ens2, mv, mm, sps, ho, pb, pz, rc, mr, md, mt2, gp, qc, qq, qe, lc, tq))) → wX_processPacket_2 post (d + 1 + 2) (nI ti) (nI N) (nI R) bt bb da ag lo (nI ti) sb sd tk fw fv hv sts ops opn rg kf kk th ens mv mm sps ho pb pz rc mr md mt gp qc qq qe lc tq := by
        intro post hp
        exact br_f t4 (p5 _ (br_f sd_10 ⟨N + 1, l3 _ hp⟩))
      have Y : ∀ (post : Int32 → SY → Prop), (∀ (m' j' : Nat), N ≤ j' → j' ≤ 16 → wY_pass_23 post (m' + 1) (nI j') (nI N) (nI R) tl (nI (8 * Z)) (nI b1) ma ol (nI (ti + 1)) sb1 sd2 tk da2 ag2 gl fw fv2 hv2 ta lk go ca cv cm cg opn ow oq ox rg2 sw sa sz sg ho kf kk ra ac ea eb ch2 th mv mm ty bi mk rc mr md mt2 gp yb le qc qe qq tq lc gt) → wpY_pass post ((nI N), (nI R), tl, (nI (8 * Z)), bt, ma, ol, (nI ti), sb, sd, tk, dr, ay, gl, fw, fv, hv, ta, lk, go, ca, cv, cm, cg, opn, ow, oq, ox, rg, sw, sa, sz, sg, ho, kf, kk, ra, ac, ea, eb, ch, th, mv, mm, ty, bi, mk, rc, mr, md, mt, gp, yb, le, qc, qe, qq, tq, lc, gt) := by
        intro post hp
        exact p6 _ (br_f sd_10 ⟨N + 1, l4 _ (N + 1) (by omega) hp⟩)
      by_cases z : da2 = 0
      · obtain ⟨B, L, pb3, mk3, q1, q2, q3, q4, q5, q6⟩ := sd_build (sc := (nI N)) (bb := bb) (da := da2) (ag := ag2) (lo := lo) (tp := (nI (ti + 1))) (sb := sb1) (sd := sd2) (tk := tk) (fw := fw) (fv := fv2) (hv := hv2) (sts := sts) (ops := ops) (opn := opn) (rg := rg2) (kf := kf) (kk := kk) (th := th) (ens := ens2) (mv := mv) (mm := mm) (sps := sps) (ho := ho) (pb := pb) (pz := pz) (rc := rc) (mr := mr) (md := md) (mt := mt2) (gp := gp) (qc := qc) (qq := qq) (qe := qe) (lc := lc) (tq := tq) (tl := tl) (ma := ma) (ol := ol) (dr := da2) (ay := ag2) (gl := gl) (ta := ta) (lk := lk) (go := go) (ca := ca) (cv := cv) (cm := cm) (cg := cg) (ow := ow) (oq := oq) (ox := ox) (sw := sw) (sa := sa) (sz := sz) (sg := sg) (ra := ra) (ac := ac) (ea := ea) (eb := eb) (ch := ch2) (ty := ty) (bi := bi) (mk := mk) (yb := yb) (le := le) (gt := gt) l1 hR hho hZ p2 hz hb
        by_cases zB : B ≤ 128
        · have hL : L ≤ 16 := by omega
          rw [if_pos zB] at q5
          have n128 : ¬ 128 < nI (8 * L) := nI_nlt (a := 128) (by omega) (by decide)
          have b128 : nI B ≤ 128 := nI_le (b := 128) zB (by decide)
          by_cases za : ag2 = 0
          · refine ⟨0, nI b1, nI B, da2, ag2, nI (ti + 1), sb1, sd2, nI (8 * Z), nI (8 * L), da2, ag2, fv2, hv2, rg2, mt2, ens2, pb3, upd pz 50 (nI L), ch2, bi, mk3, by omega, l1, l2, fun j hj => q4 j (by omega), fun s h49 h50 => pk_un h50, fun _ => ⟨L, hL, rfl, pk_us, fun k hk => sd_BIa q3 (by omega) (by omega)⟩, fun post hp => X post (br_t z (q5 _ (br_t b128 (br_t za hp)))), fun post m hm hp => ?_⟩
            obtain ⟨m2, rfl⟩ : ∃ m2, m = m2 + 1 + 1 := ⟨m - 2, by omega⟩
            exact br_t rfl (Y _ (fun m' j' j1 j2 => br_t (nI_le j1 (by omega)) (br_t z (q6 _ (br_f n128 (br_t za (br_t za (hp m2))))))))
          · obtain ⟨rr, bt', bb', da', ag', tp', sb', sd', tt', ma', dr', ay', fv', hv', rg', mt', ens', pb', pz', ch', bi', mk', s1, s2, s3, s4, s5, s6, s7, s8⟩ := ih (ti + 1) L (nI b1) (nI B) da2 ag2 sb1 sd2 (nI (8 * L)) da2 ag2 fv2 hv2 rg2 mt2 ens2 (sd_cp pb3 50 49 L) (upd (upd pz 50 (nI L)) 49 (nI L)) ch2 (sd_cb bi mk3 (8 * L)) mk3 (by omega) hL pk_us (fun k hk => by
              rw [sd_cbi (8 * L) k hk, sd_BIv q3 (by omega) hk]
              have e := sd_cpi (pb := pb3) (f := 50) (t := 49) (by omega) L hL (k / 8) (by omega)
              have e' : sd_cp pb3 50 49 L (784 + k / 8) = pb3 (800 + k / 8) := e
              rw [e']) l1 l2
            have n4 : ¬ nI (ti + 1) = 4 := fun y => absurd ((nI_eq (a := ti + 1) (b := 4) (by omega) (by omega)).mp y) (by omega)
            refine ⟨rr, bt', bb', da', ag', tp', sb', sd', tt', ma', dr', ay', fv', hv', rg', mt', ens', pb', pz', ch', bi', mk', s1, s2, s3, fun j hj => by rw [s4 j hj, sd_cpo L j (by omega)]; exact q4 j (by omega), fun s h49 h50 => by rw [s5 s h49 h50, pk_un h49, pk_un h50], s6, fun post hp => X post (br_t z (q5 _ (br_t b128 (br_f za (sx_copy (f := 50) (t := 49) (by omega) (by omega) hL pk_us (nm_r (nI_1 ti) (s7 post hp))))))), fun post m hm hp => ?_⟩
            obtain ⟨m2, rfl⟩ : ∃ m2, m = m2 + 1 := ⟨m - 1, by omega⟩
            exact br_t rfl (Y _ (fun m' j' j1 j2 => br_t (nI_le j1 (by omega)) (br_t z (q6 _ (br_f n128 (br_f za (br_f n4 (br_f za (sy_p99b hL q3 (s8 post m2 (by omega) hp))))))))))
        · rw [if_neg zB] at q5
          have n128 : 128 < nI (8 * L) := nI_lt (a := 128) (by omega) (by omega)
          have b128 : ¬ nI B ≤ 128 := nI_ge (a := 128) (by omega) (by omega)
          refine ⟨1, nI b1, nI B, da2, ag2, nI (ti + 1), sb1, sd2, nI (8 * Z), nI (8 * L), da2, ag2, fv2, hv2, rg2, mt2, ens2, pb3, upd pz 50 0, ch2, bi, mk3, by omega, l1, l2, fun j hj => q4 j (by omega), fun s h49 h50 => pk_un h50, fun z => absurd z (by omega), fun post hp => X post (br_t z (q5 _ (br_f b128 hp))), fun post m hm hp => ?_⟩
          obtain ⟨m2, rfl⟩ : ∃ m2, m = m2 + 1 + 1 := ⟨m - 2, by omega⟩
          exact br_t rfl (Y _ (fun m' j' j1 j2 => br_t (nI_le j1 (by omega)) (br_t z (q6 _ (br_t n128 (hp m2))))))
      · refine ⟨1, nI b1, bb, da2, ag2, nI (ti + 1), sb1, sd2, nI (8 * Z), ma, da2, ag2, fv2, hv2, rg2, mt2, ens2, pb, pz, ch2, bi, mk, by omega, l1, l2, fun _ _ => rfl, fun _ _ _ => rfl, fun z => absurd z (by omega), fun post hp => X post (br_f z hp), fun post m hm hp => ?_⟩
        obtain ⟨m2, rfl⟩ : ∃ m2, m = m2 + 1 + 1 := ⟨m - 2, by omega⟩
        exact br_t rfl (Y _ (fun m' j' j1 j2 => br_t (nI_le j1 (by omega)) (br_f z (hp m2))))
end
