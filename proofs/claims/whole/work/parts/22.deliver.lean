section
variable {sc oc bt bb da ag lo tp sb sd tk : Int32} {fw fv hv sts ops opn rg kf kk th ens mv mm sps ho pb pz rc mr md mt gp qc qq qe lc tq : Nat → Int32} {tl tt ma ol dr ay gl : Int32} {ta lk go ca cv cm cg ow oq ox sw sa sz sg ra ac ea eb ch ty bi mk yb le gt : Nat → Int32}
theorem sd_sh4 : ∀ g, g < 4 → ∀ p, p < 4 → ((((1 : Int32) <<< (nI g &&& 31)) >>> (nI p &&& 31)) &&& 1 = 1 ↔ g = p) := by decide +kernel
theorem sd_sh0 : ∀ p, p < 4 → ¬ (((0 : Int32) >>> (nI p &&& 31)) &&& 1 = 1) := by decide +kernel
/-- does the packet go to port p? -/
def sd_to (gp : Nat → Int32) (g p : Nat) : Prop := g = p ∨ (4 ≤ g ∧ g < 8 ∧ (gp (g - 4) >>> (nI p &&& 31)) &&& 1 = 1)
theorem sx_dist {post : SX → Prop} {n g p : Nat} (hg : g < 65536) (hp : p < 4) (h1 : sd_to gp g p → wX_distribute_57 post (wX_distribute_10 post (nI g) n) (nI g) (nI p) sc oc bt bb da ag lo tp sb sd tk fw fv hv sts ops opn rg kf kk th ens mv mm sps ho pb pz rc mr md mt gp qc qq qe lc tq) (h0 : ¬ sd_to gp g p → wX_distribute_10 post (nI g) n (nI (p + 1)) sc oc bt bb da ag lo tp sb sd tk fw fv hv sts ops opn rg kf kk th ens mv mm sps ho pb pz rc mr md mt gp qc qq qe lc tq) : wX_distribute_10 post (nI g) (n + 1) (nI p) sc oc bt bb da ag lo tp sb sd tk fw fv hv sts ops opn rg kf kk th ens mv mm sps ho pb pz rc mr md mt gp qc qq qe lc tq := by
  have a46 : (¬ (4 ≤ g ∧ g < 8 ∧ (gp (g - 4) >>> (nI p &&& 31)) &&& 1 = 1)) → wX_distribute_47 post (wX_distribute_10 post (nI g) n) (nI g) (nI p) 0 sc oc bt bb da ag lo tp sb sd tk fw fv hv sts ops opn rg kf kk th ens mv mm sps ho pb pz rc mr md mt gp qc qq qe lc tq := by
    intro z
    refine pk_eq g p (fun e => h1 (Or.inl e)) (fun e => br_t rfl (nm_r (nI_1 p) (h0 ?_)))
    rintro (y | y)
    · exact e y
    · exact z y
  refine br_f (nI_ge (b := 4) hp (by decide)) (pk_lt g 4 (fun z => a46 (fun y => by omega)) (fun z => pk_le 8 g (fun y => a46 (fun y => by omega)) (fun y => ?_)))
  have e : nI g - 4 = nI (g - 4) := pk_sub (b := 4) z
  rw [e, nI_clamp (by omega)]
  refine ⟨vp_in_nI (by omega) (by decide), br_c (fun b => ?_) (fun b => a46 (fun y => b y.2.2))⟩
  have t : sd_to gp g p := Or.inr ⟨z, y, b⟩
  exact br_c (fun _ => h1 t) (fun _ => br_f sd_10 (h1 t))
/-- Y: the bytes of the packet that came out are put at k -/
def sd_yb (yb mk : Nat → Int32) (k : Nat) : Nat → (Nat → Int32)
  | 0 => yb
  | i + 1 => upd (sd_yb yb mk k i) (16 * k + i) (sd_ac mk (8 * i) 8)
theorem sd_ybi {k : Nat} : ∀ i j, j < i → sd_yb yb mk k i (16 * k + j) = sd_ac mk (8 * j) 8
  | 0, j, h => absurd h (by omega)
  | i + 1, j, h => by
    show upd (sd_yb yb mk k i) (16 * k + i) _ (16 * k + j) = _
    by_cases e : j = i
    · subst e; rw [pk_us]
    · rw [pk_un (by omega)]; exact sd_ybi i j (by omega)
theorem sd_ybo {k : Nat} : ∀ i j, (j < 16 * k ∨ 16 * k + i ≤ j) → sd_yb yb mk k i j = yb j
  | 0, j, h => rfl
  | i + 1, j, h => by
    show upd (sd_yb yb mk k i) (16 * k + i) _ j = _
    rw [pk_un (by omega)]; exact sd_ybo i j (by omega)
theorem sx_enq {post : SX → Prop} {p c C L : Nat} (hp : p < 4) (hc : c < 3) (hC : C ≤ 4) (hqc : qc (3 * p + c) = nI C) (hL : L ≤ 16) (hz : pz 50 = nI L)
    (h1 : C < 4 → post (sc, oc, bt, bb, da, ag, lo, tp, sb, sd, tk, fw, fv, hv, sts, ops, opn, rg, kf, kk, th, ens, mv, mm, sps, ho, (sd_cp pb 50 ((3 * p + c) * 4 + C) L), (upd pz ((3 * p + c) * 4 + C) (nI L)), rc, mr, md, mt, gp, (upd qc (3 * p + c) (nI (C + 1))), qq, qe, lc, tq)) (h0 : ¬ C < 4 → post (sc, oc, bt, bb, da, ag, lo, tp, sb, sd, tk, fw, fv, hv, sts, ops, opn, rg, kf, kk, th, ens, mv, mm, sps, ho, pb, pz, rc, mr, md, mt, gp, qc, qq, qe, (upd lc p (lc p + 1)), tq)) : wpX_enqueue post (sc, oc, bt, bb, da, ag, lo, tp, sb, sd, tk, fw, fv, hv, sts, ops, opn, rg, kf, kk, th, ens, mv, mm, sps, ho, pb, pz, rc, mr, md, mt, gp, qc, qq, qe, lc, tq) (nI p) (nI c) := by
  unfold wpX_enqueue
  refine nm_r (sd_3' p c) ⟨vp_in_nI (by omega) (by decide), ?_⟩
  rw [nI_clamp (n := 3 * p + c) (by omega), hqc]
  refine pk_lt C 4 (fun z => ⟨vp_in_nI (by omega) (by decide), ?_⟩) (fun z => ⟨vp_in_nI hp (by decide), ?_⟩)
  · have e : nI (3 * p + c) * 4 + nI C = nI ((3 * p + c) * 4 + C) := sd_ma _ 4 C
    rw [e]
    refine sx_copy (f := 50) (by omega) (by omega) hL hz ⟨vp_in_nI (by omega) (by decide), vp_in_nI (by omega) (by decide), ?_⟩
    rw [hqc, nI_1]
    exact nm_e (h1 z)
  · rw [nI_clamp (n := p) (by omega)]
    exact ⟨vp_in_nI hp (by decide), nm_e (h0 (by omega))⟩
theorem sy_enq {post : SY → Prop} {p c C L : Nat} (hp : p < 4) (hc : c < 3) (hC : C ≤ 4) (hqc : qc (3 * p + c) = nI C) (hL : L ≤ 16)
    (h1 : C < 4 → post (sc, oc, tl, tt, bt, ma, (nI L), tp, sb, sd, tk, dr, ay, gl, fw, fv, hv, ta, lk, go, ca, cv, cm, cg, opn, ow, oq, ox, rg, sw, sa, sz, sg, ho, kf, kk, ra, ac, ea, eb, ch, th, mv, mm, ty, bi, mk, rc, mr, md, mt, gp, (sd_yb yb mk (4 * (3 * p + c) + C) L), (upd le (4 * (3 * p + c) + C) (nI L)), (upd qc (3 * p + c) (nI (C + 1))), qe, qq, tq, lc, gt)) (h0 : ¬ C < 4 → post (sc, oc, tl, tt, bt, ma, (nI L), tp, sb, sd, tk, dr, ay, gl, fw, fv, hv, ta, lk, go, ca, cv, cm, cg, opn, ow, oq, ox, rg, sw, sa, sz, sg, ho, kf, kk, ra, ac, ea, eb, ch, th, mv, mm, ty, bi, mk, rc, mr, md, mt, gp, yb, le, qc, qe, qq, tq, (upd lc p (lc p + 1)), gt)) : wpY_queue post (sc, oc, tl, tt, bt, ma, (nI L), tp, sb, sd, tk, dr, ay, gl, fw, fv, hv, ta, lk, go, ca, cv, cm, cg, opn, ow, oq, ox, rg, sw, sa, sz, sg, ho, kf, kk, ra, ac, ea, eb, ch, th, mv, mm, ty, bi, mk, rc, mr, md, mt, gp, yb, le, qc, qe, qq, tq, lc, gt) (nI p) (nI (3 * p + c)) := by
  unfold wpY_queue
  refine ⟨vp_in_nI (by omega) (by decide), ?_⟩
  rw [nI_clamp (n := 3 * p + c) (by omega), hqc]
  refine pk_eq C 4 (fun z => ⟨vp_in_nI hp (by decide), ?_⟩) (fun z => ⟨vp_in_nI (by omega) (by decide), vp_in_nI (by omega) (by decide), ?_⟩)
  · rw [nI_clamp (n := p) (by omega)]
    exact ⟨vp_in_nI hp (by decide), nm_e (h0 (by omega))⟩
  · rw [nI_1]
    refine nm_e (nm_r (sd_am (3 * p + c) 4 C) (sd_st (4 * (3 * p + c) + C) rfl (by omega) (by decide) ?_))
    refine sd_lp (fun n i s => wY_queue_50 post (nI (4 * (3 * p + c) + C)) sc oc tl tt bt ma (nI L) tp sb sd tk dr ay gl n (nI i) fw fv hv ta lk go ca cv cm cg opn ow oq ox rg sw sa sz sg ho kf kk ra ac ea eb ch th mv mm ty bi mk rc mr md mt gp s (upd le (4 * (3 * p + c) + C) (nI L)) (upd qc (3 * p + c) (nI (C + 1))) qe qq tq lc gt) (fun i => sd_yb yb mk (4 * (3 * p + c) + C) i) L 0 (by omega) (fun n => br_t (nI_le (Nat.le_refl _) (by omega)) (h1 (by omega)))
      (fun n i _ hi ih => br_f (nI_ge hi (by omega)) (sy_byte (by omega) (sd_st (16 * (4 * (3 * p + c) + C) + i) (sd_am _ 16 i) (by omega) (by decide) (nm_r (nI_1 i) ih))))
theorem sd_Wq (hW : sd_W pb pz qc le yb) {q C L : Nat} (hq : q < 12) (hC : C < 4) (hqc : qc q = nI C) (hL : L ≤ 16) (hb : ∀ k, k < L → pb (800 + k) = sd_ac mk (8 * k) 8) :
    sd_W (sd_cp pb 50 (q * 4 + C) L) (upd pz (q * 4 + C) (nI L)) (upd qc q (nI (C + 1))) (upd le (4 * q + C) (nI L)) (sd_yb yb mk (4 * q + C) L) := by
  intro r hr
  obtain ⟨C2, h1, h2, h3⟩ := hW r hr
  have old : ∀ i, i < C2 → r * 4 + i ≠ q * 4 + C → ∃ L' : Nat, L' ≤ 16 ∧ upd le (4 * q + C) (nI L) (4 * r + i) = nI L' ∧ upd pz (q * 4 + C) (nI L) (r * 4 + i) = nI L' ∧ ∀ j, j < L' → sd_cp pb 50 (q * 4 + C) L ((r * 4 + i) * 16 + j) = sd_yb yb mk (4 * q + C) L (16 * (4 * r + i) + j) := by
    intro i hi hne
    obtain ⟨L', g1, g2, g3, g4⟩ := h3 i hi
    refine ⟨L', g1, ?_, ?_, fun j hj => ?_⟩
    · rw [pk_un (by omega)]; exact g2
    · rw [pk_un (by omega)]; exact g3
    · rw [sd_cpo L _ (by omega), sd_ybo L _ (by omega)]; exact g4 j hj
  by_cases z : r = q
  · subst z
    rw [hqc] at h2
    have h2' := (nI_eq (by omega) (by omega)).mp h2
    subst h2'
    rw [pk_us]
    refine ⟨C + 1, by omega, rfl, fun i hi => ?_⟩
    by_cases e : i = C
    · subst e
      refine ⟨L, hL, by rw [pk_us], by rw [pk_us], fun j hj => ?_⟩
      rw [sd_cpi (by omega) L hL j hj, sd_ybi L j hj]
      exact hb j hj
    · exact old i (by omega) (by omega)
  · rw [pk_un z]
    exact ⟨C2, h1, h2, fun i hi => old i hi (by omega)⟩
/-- delivering, both sides at once -/
theorem sd_dl {g c L : Nat} {set : Int32} (hg : g < 65536) (hc : c < 3) (hc2 : fv 26 - fv 26 / 3 * 3 = nI c) (hL : L ≤ 16) (hset : ∀ p, p < 4 → ((set >>> (nI p &&& 31)) &&& 1 = 1 ↔ sd_to gp g p)) :
    ∀ (d p : Nat) (qc lc pb pz le yb : Nat → Int32), p + d = 4 → sd_W pb pz qc le yb → pz 50 = nI L → (∀ k, k < L → pb (800 + k) = sd_ac mk (8 * k) 8) →
    ∃ (qc' lc' pb' pz' le' yb' : Nat → Int32), sd_W pb' pz' qc' le' yb' ∧ (∀ j, 768 ≤ j → pb' j = pb j) ∧ (∀ s, 48 ≤ s → pz' s = pz s) ∧
    (∀ post : SX → Prop, post (sc, oc, bt, bb, da, ag, lo, tp, sb, sd, tk, fw, fv, hv, sts, ops, opn, rg, kf, kk, th, ens, mv, mm, sps, ho, pb', pz', rc, mr, md, mt, gp, qc', qq, qe, lc', tq) → wX_distribute_10 post (nI g) (d + 1) (nI p) sc oc bt bb da ag lo tp sb sd tk fw fv hv sts ops opn rg kf kk th ens mv mm sps ho pb pz rc mr md mt gp qc qq qe lc tq) ∧
    (∀ post : SY → Prop, post (sc, oc, tl, tt, bt, ma, (nI L), tp, sb, sd, tk, dr, ay, gl, fw, fv, hv, ta, lk, go, ca, cv, cm, cg, opn, ow, oq, ox, rg, sw, sa, sz, sg, ho, kf, kk, ra, ac, ea, eb, ch, th, mv, mm, ty, bi, mk, rc, mr, md, mt, gp, yb', le', qc', qe, qq, tq, lc', gt) → wY_deliver_40 post set (d + 1) (nI p) sc oc tl tt bt ma (nI L) tp sb sd tk dr ay gl fw fv hv ta lk go ca cv cm cg opn ow oq ox rg sw sa sz sg ho kf kk ra ac ea eb ch th mv mm ty bi mk rc mr md mt gp yb le qc qe qq tq lc gt) := by
  intro d
  induction d with
  | zero =>
    intro p qc lc pb pz le yb hp hW hz hb
    have : p = 4 := by omega
    subst this
    exact ⟨qc, lc, pb, pz, le, yb, hW, fun _ _ => rfl, fun _ _ => rfl, fun post h => br_t (by decide) h, fun post h => br_t (by decide) h⟩
  | succ d ih =>
    intro p qc lc pb pz le yb hp hW hz hb
    have n4 : ¬ 4 ≤ nI p := nI_ge (b := 4) (by omega) (by decide)
    by_cases t : sd_to gp g p
    · have t' := (hset p (by omega)).mpr t
      obtain ⟨C, hC, hqc, hsl⟩ := hW (3 * p + c) (by omega)
      by_cases z : C < 4
      · obtain ⟨qc', lc', pb', pz', le', yb', k1, k2, k3, k4, k5⟩ := ih (p + 1) (upd qc (3 * p + c) (nI (C + 1))) lc (sd_cp pb 50 ((3 * p + c) * 4 + C) L) (upd pz ((3 * p + c) * 4 + C) (nI L)) (upd le (4 * (3 * p + c) + C) (nI L)) (sd_yb yb mk (4 * (3 * p + c) + C) L) (by omega) (sd_Wq hW (by omega) z hqc hL hb) (by rw [pk_un (by omega)]; exact hz) (fun k hk => by rw [sd_cpo L _ (by omega)]; exact hb k hk)
        refine ⟨qc', lc', pb', pz', le', yb', k1, fun j hj => by rw [k2 j hj, sd_cpo L _ (by omega)], fun s hs => by rw [k3 s hs, pk_un (by omega)], fun post h => sx_dist hg (by omega) (fun _ => ⟨by decide, ?_⟩) (fun y => absurd t y), fun post h => br_f n4 (br_t t' ⟨by decide, ?_⟩)⟩
        · rw [hc2]
          exact sx_enq (by omega) hc hC hqc hL hz (fun _ => nm_r (nI_1 p) (k4 post h)) (fun y => absurd z y)
        · rw [hc2, sd_3]
          exact sy_enq (by omega) hc hC hqc hL (fun _ => nm_r (nI_1 p) (k5 post h)) (fun y => absurd z y)
      · obtain ⟨qc', lc', pb', pz', le', yb', k1, k2, k3, k4, k5⟩ := ih (p + 1) qc (upd lc p (lc p + 1)) pb pz le yb (by omega) hW hz hb
        refine ⟨qc', lc', pb', pz', le', yb', k1, k2, k3, fun post h => sx_dist hg (by omega) (fun _ => ⟨by decide, ?_⟩) (fun y => absurd t y), fun post h => br_f n4 (br_t t' ⟨by decide, ?_⟩)⟩
        · rw [hc2]
          exact sx_enq (by omega) hc hC hqc hL hz (fun y => absurd y z) (fun _ => nm_r (nI_1 p) (k4 post h))
        · rw [hc2, sd_3]
          exact sy_enq (by omega) hc hC hqc hL (fun y => absurd y z) (fun _ => nm_r (nI_1 p) (k5 post h))
    · have t' : ¬ (set >>> (nI p &&& 31)) &&& 1 = 1 := fun y => t ((hset p (by omega)).mp y)
      obtain ⟨qc', lc', pb', pz', le', yb', k1, k2, k3, k4, k5⟩ := ih (p + 1) qc lc pb pz le yb (by omega) hW hz hb
      exact ⟨qc', lc', pb', pz', le', yb', k1, k2, k3, fun post h => sx_dist hg (by omega) (fun y => absurd y t) (fun _ => k4 post h), fun post h => br_f n4 (br_f t' (nm_r (nI_1 p) (k5 post h)))⟩
theorem sd_deliver (hF : sd_F fw fv hv) (hW : sd_W pb pz qc le yb) {L : Nat} (hL : L ≤ 16) (hz : pz 50 = nI L) (hb : ∀ k, k < L → pb (800 + k) = sd_ac mk (8 * k) 8) :
    ∃ (qc' lc' pb' pz' le' yb' : Nat → Int32), sd_W pb' pz' qc' le' yb' ∧ (∀ j, 768 ≤ j → pb' j = pb j) ∧ (∀ s, 48 ≤ s → pz' s = pz s) ∧
    (∀ post : SX → Prop, post (sc, oc, bt, bb, da, ag, lo, tp, sb, sd, tk, fw, fv, hv, sts, ops, opn, rg, kf, kk, th, ens, mv, mm, sps, ho, pb', pz', rc, mr, md, mt, gp, qc', qq, qe, lc', tq) → wpX_distribute post (sc, oc, bt, bb, da, ag, lo, tp, sb, sd, tk, fw, fv, hv, sts, ops, opn, rg, kf, kk, th, ens, mv, mm, sps, ho, pb, pz, rc, mr, md, mt, gp, qc, qq, qe, lc, tq)) ∧
    (∀ post : SY → Prop, post (sc, oc, tl, tt, bt, ma, (nI L), tp, sb, sd, tk, dr, ay, gl, fw, fv, hv, ta, lk, go, ca, cv, cm, cg, opn, ow, oq, ox, rg, sw, sa, sz, sg, ho, kf, kk, ra, ac, ea, eb, ch, th, mv, mm, ty, bi, mk, rc, mr, md, mt, gp, yb', le', qc', qe, qq, tq, lc', gt) → wpY_deliver post (sc, oc, tl, tt, bt, ma, (nI L), tp, sb, sd, tk, dr, ay, gl, fw, fv, hv, ta, lk, go, ca, cv, cm, cg, opn, ow, oq, ox, rg, sw, sa, sz, sg, ho, kf, kk, ra, ac, ea, eb, ch, th, mv, mm, ty, bi, mk, rc, mr, md, mt, gp, yb, le, qc, qe, qq, tq, lc, gt)) := by
  obtain ⟨a, g, ha, hg, _, eg⟩ := hF.1 25 (by omega)
  obtain ⟨a2, c, ha2, hc, _, ec⟩ := hF.1 26 (by omega)
  have hg2 : g < 65536 := Nat.lt_of_lt_of_le hg (Nat.pow_le_pow_right (n := 2) (by decide) ha)
  have hc2 : c < 65536 := Nat.lt_of_lt_of_le hc (Nat.pow_le_pow_right (n := 2) (by decide) ha2)
  have e3 : fv 26 - fv 26 / 3 * 3 = nI (c % 3) := by rw [ec]; exact pk_rem (d := 3) (by omega) (by decide) (by decide)
  have main : ∀ set : Int32, (∀ p, p < 4 → ((set >>> (nI p &&& 31)) &&& 1 = 1 ↔ sd_to gp g p)) → (∀ post : SY → Prop, (∃ n, wY_deliver_40 post set n 0 sc oc tl tt bt ma (nI L) tp sb sd tk dr ay gl fw fv hv ta lk go ca cv cm cg opn ow oq ox rg sw sa sz sg ho kf kk ra ac ea eb ch th mv mm ty bi mk rc mr md mt gp yb le qc qe qq tq lc gt) → wpY_deliver post (sc, oc, tl, tt, bt, ma, (nI L), tp, sb, sd, tk, dr, ay, gl, fw, fv, hv, ta, lk, go, ca, cv, cm, cg, opn, ow, oq, ox, rg, sw, sa, sz, sg, ho, kf, kk, ra, ac, ea, eb, ch, th, mv, mm, ty, bi, mk, rc, mr, md, mt, gp, yb, le, qc, qe, qq, tq, lc, gt)) → ∃ (qc' lc' pb' pz' le' yb' : Nat → Int32), sd_W pb' pz' qc' le' yb' ∧ (∀ j, 768 ≤ j → pb' j = pb j) ∧ (∀ s, 48 ≤ s → pz' s = pz s) ∧
    (∀ post : SX → Prop, post (sc, oc, bt, bb, da, ag, lo, tp, sb, sd, tk, fw, fv, hv, sts, ops, opn, rg, kf, kk, th, ens, mv, mm, sps, ho, pb', pz', rc, mr, md, mt, gp, qc', qq, qe, lc', tq) → wpX_distribute post (sc, oc, bt, bb, da, ag, lo, tp, sb, sd, tk, fw, fv, hv, sts, ops, opn, rg, kf, kk, th, ens, mv, mm, sps, ho, pb, pz, rc, mr, md, mt, gp, qc, qq, qe, lc, tq)) ∧
    (∀ post : SY → Prop, post (sc, oc, tl, tt, bt, ma, (nI L), tp, sb, sd, tk, dr, ay, gl, fw, fv, hv, ta, lk, go, ca, cv, cm, cg, opn, ow, oq, ox, rg, sw, sa, sz, sg, ho, kf, kk, ra, ac, ea, eb, ch, th, mv, mm, ty, bi, mk, rc, mr, md, mt, gp, yb', le', qc', qe, qq, tq, lc', gt) → wpY_deliver post (sc, oc, tl, tt, bt, ma, (nI L), tp, sb, sd, tk, dr, ay, gl, fw, fv, hv, ta, lk, go, ca, cv, cm, cg, opn, ow, oq, ox, rg, sw, sa, sz, sg, ho, kf, kk, ra, ac, ea, eb, ch, th, mv, mm, ty, bi, mk, rc, mr, md, mt, gp, yb, le, qc, qe, qq, tq, lc, gt)) := by
    intro set hset hy
    obtain ⟨qc', lc', pb', pz', le', yb', k1, k2, k3, k4, k5⟩ := sd_dl (sc := sc) (oc := oc) (bt := bt) (bb := bb) (da := da) (ag := ag) (lo := lo) (tp := tp) (sb := sb) (sd := sd) (tk := tk) (fw := fw) (fv := fv) (hv := hv) (sts := sts) (ops := ops) (opn := opn) (rg := rg) (kf := kf) (kk := kk) (th := th) (ens := ens) (mv := mv) (mm := mm) (sps := sps) (ho := ho) (rc := rc) (mr := mr) (md := md) (mt := mt) (gp := gp) (qq := qq) (qe := qe) (tq := tq) (tl := tl) (tt := tt) (ma := ma) (dr := dr) (ay := ay) (gl := gl) (ta := ta) (lk := lk) (go := go) (ca := ca) (cv := cv) (cm := cm) (cg := cg) (ow := ow) (oq := oq) (ox := ox) (sw := sw) (sa := sa) (sz := sz) (sg := sg) (ra := ra) (ac := ac) (ea := ea) (eb := eb) (ch := ch) (ty := ty) (bi := bi) (mk := mk) (gt := gt) hg2 (show c % 3 < 3 by omega) e3 hL hset 4 0 qc lc pb pz le yb (by omega) hW hz hb
    exact ⟨qc', lc', pb', pz', le', yb', k1, k2, k3, fun post h => nm_r eg ⟨5, k4 post h⟩, fun post h => hy post ⟨5, k5 post h⟩⟩
  by_cases g4 : g < 4
  · refine main ((1 : Int32) <<< (nI g &&& 31)) (fun p hp => ?_) (fun post h => nm_r eg (br_f (nI_ge (b := 4) g4 (by decide)) (nm_e h)))
    rw [sd_sh4 g g4 p hp]
    exact ⟨fun y => Or.inl y, fun y => y.elim id (fun y => absurd y.1 (by omega))⟩
  · by_cases g8 : g < 8
    · refine main (gp (g - 4)) (fun p hp => ⟨fun y => Or.inr ⟨by omega, g8, y⟩, fun y => y.elim (fun y => absurd y (by omega)) (fun y => y.2.2)⟩) (fun post h => nm_r eg (br_t (nI_le (a := 4) (by omega) (by omega)) (br_f (nI_ge (b := 8) g8 (by decide)) ?_)))
      have e : nI g - 4 = nI (g - 4) := pk_sub (b := 4) (by omega)
      rw [e, nI_clamp (by omega)]
      exact ⟨vp_in_nI (by omega) (by decide), nm_e h⟩
    · refine main 0 (fun p hp => ⟨fun y => absurd y (sd_sh0 p hp), fun y => y.elim (fun y => absurd y (by omega)) (fun y => absurd y.2.1 g8)⟩) (fun post h => nm_r eg (br_t (nI_le (a := 4) (by omega) (by omega)) (br_t (nI_le (a := 8) (by omega) (by omega)) h)))
end
