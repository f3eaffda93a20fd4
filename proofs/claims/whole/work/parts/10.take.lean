section
variable {sc oc bt bb da ag lo tp sb sd tk : Int32} {fw fv hv sts ops opn rg kf kk th ens mv mm sps ho pb pz rc mr md mt gp qc qq qe lc tq : Nat → Int32} {tl tt ma ol dr ay gl : Int32} {ta lk go ca cv cm cg ow oq ox sw sa sz sg ra ac ea eb ch ty bi mk yb le gt : Nat → Int32}
/-- the first i bytes of slot f are copied into slot t -/
def sd_cp (pb : Nat → Int32) (f t : Nat) : Nat → (Nat → Int32)
  | 0 => pb
  | i + 1 => upd (sd_cp pb f t i) (t * 16 + i) (sd_cp pb f t i (f * 16 + i))
theorem sd_cpo {f t : Nat} : ∀ (i j : Nat), (j < t * 16 ∨ t * 16 + i ≤ j) → sd_cp pb f t i j = pb j
  | 0, j, h => rfl
  | i + 1, j, h => by
    show upd (sd_cp pb f t i) (t * 16 + i) _ j = _
    rw [pk_un (by omega)]
    exact sd_cpo i j (by omega)
theorem sd_cpi {f t : Nat} (h : f ≠ t) : ∀ (i : Nat), i ≤ 16 → ∀ j, j < i → sd_cp pb f t i (t * 16 + j) = pb (f * 16 + j)
  | 0, _, j, hj => absurd hj (by omega)
  | i + 1, hi, j, hj => by
    show upd (sd_cp pb f t i) (t * 16 + i) (sd_cp pb f t i (f * 16 + i)) (t * 16 + j) = _
    by_cases e : j = i
    · subst e
      rw [pk_us]
      exact sd_cpo j (f * 16 + j) (by omega)
    · rw [pk_un (by omega)]
      exact sd_cpi h i (by omega) j (by omega)
theorem sx_copy {post : SX → Prop} {f t L : Nat} (hf : f < 52) (ht : t < 52) (hL : L ≤ 16) (hz : pz f = nI L) (h : post (sc, oc, bt, bb, da, ag, lo, tp, sb, sd, tk, fw, fv, hv, sts, ops, opn, rg, kf, kk, th, ens, mv, mm, sps, ho, (sd_cp pb f t L), (upd pz t (nI L)), rc, mr, md, mt, gp, qc, qq, qe, lc, tq)) : wpX_copyPacket post (sc, oc, bt, bb, da, ag, lo, tp, sb, sd, tk, fw, fv, hv, sts, ops, opn, rg, kf, kk, th, ens, mv, mm, sps, ho, pb, pz, rc, mr, md, mt, gp, qc, qq, qe, lc, tq) (nI f) (nI t) := by
  refine ⟨vp_in_nI hf (by decide), ?_⟩
  rw [nI_clamp (by omega), hz]
  refine nm_e (sd_st t rfl ht (by decide) ?_)
  exact sd_lp (fun n i s => wX_copyPacket_17 post (nI f) (nI t) (nI L) sc oc bt bb da ag lo tp sb sd tk n (nI i) fw fv hv sts ops opn rg kf kk th ens mv mm sps ho s (upd pz t (nI L)) rc mr md mt gp qc qq qe lc tq) (fun i => sd_cp pb f t i) L 0 (by omega) (fun n => br_t (nI_le (Nat.le_refl _) (by omega)) h)
    (fun n i _ hi ih => br_f (nI_ge hi (by omega)) ⟨by
      have e : nI f * 16 + nI i = nI (f * 16 + i) := sd_ma f 16 i
      rw [e]
      exact vp_in_nI (by omega) (by decide), by
      have e : nI f * 16 + nI i = nI (f * 16 + i) := sd_ma f 16 i
      rw [e, nI_clamp (n := f * 16 + i) (by omega)]
      exact sd_st (t * 16 + i) (sd_ma t 16 i) (by omega) (by decide) (nm_r (nI_1 i) ih)⟩)
/-- what takeFirst makes of the packets of queue q that has C + 1 of them -/
def sd_K (q C : Nat) (pb pz pb' pz' : Nat → Int32) : Prop :=
  (pz' 51 = pz (q * 4) ∧ ∀ j, j < (pz (q * 4)).toNatClampNeg → pb' (816 + j) = pb (q * 4 * 16 + j)) ∧
  (∀ i, i < C → pz' (q * 4 + i) = pz (q * 4 + i + 1) ∧ ∀ j, j < (pz (q * 4 + i + 1)).toNatClampNeg → pb' ((q * 4 + i) * 16 + j) = pb ((q * 4 + i + 1) * 16 + j)) ∧
  (∀ s, s < 51 → (s < q * 4 ∨ q * 4 + C ≤ s) → pz' s = pz s ∧ ∀ j, j < 16 → pb' (s * 16 + j) = pb (s * 16 + j))
theorem sx_take {post : SX → Prop} {q C : Nat} (hq : q < 12) (hC : C < 4) (hc : qc q = nI (C + 1)) (hL : ∀ i, i < C + 1 → ∃ L : Nat, L ≤ 16 ∧ pz (q * 4 + i) = nI L)
    (h : ∀ pb' pz', sd_K q C pb pz pb' pz' → post (sc, oc, bt, bb, da, ag, lo, tp, sb, sd, tk, fw, fv, hv, sts, ops, opn, rg, kf, kk, th, ens, mv, mm, sps, ho, pb', pz', rc, mr, md, mt, gp, (upd qc q (nI C)), qq, qe, lc, tq)) : wpX_takeFirst post (sc, oc, bt, bb, da, ag, lo, tp, sb, sd, tk, fw, fv, hv, sts, ops, opn, rg, kf, kk, th, ens, mv, mm, sps, ho, pb, pz, rc, mr, md, mt, gp, qc, qq, qe, lc, tq) (nI q) := by
  unfold wpX_takeFirst
  obtain ⟨L0, hL0, hz0⟩ := hL 0 (by omega)
  refine nm_r (pk_mul q 4) ?_
  refine sx_copy (f := q * 4) (t := 51) (by omega) (by omega) hL0 hz0 ?_
  refine ⟨vp_in_nI hq (by decide), ?_⟩
  rw [nI_clamp (by omega), hc]
  refine nm_r (nI_pred C) ?_
  refine ⟨C + 1, loop_i (fun n i (s : (Nat → Int32) × (Nat → Int32)) => wX_takeFirst_23 post (nI q) (nI (q * 4)) (nI C) n (nI i) sc oc bt bb da ag lo tp sb sd tk fw fv hv sts ops opn rg kf kk th ens mv mm sps ho s.1 s.2 rc mr md mt gp qc qq qe lc tq)
    (fun i s => (s.2 51 = nI L0 ∧ ∀ j, j < L0 → s.1 (816 + j) = pb (q * 4 * 16 + j)) ∧
      (∀ a, a < i → s.2 (q * 4 + a) = pz (q * 4 + a + 1) ∧ ∀ j, j < (pz (q * 4 + a + 1)).toNatClampNeg → s.1 ((q * 4 + a) * 16 + j) = pb ((q * 4 + a + 1) * 16 + j)) ∧
      (∀ t, t < 51 → (t < q * 4 ∨ q * 4 + i ≤ t) → s.2 t = pz t ∧ ∀ j, j < 16 → s.1 (t * 16 + j) = pb (t * 16 + j))) C ?_ ?_ (C + 1) 0 (sd_cp pb (q * 4) 51 L0, upd pz 51 (nI L0)) (by omega) (by omega) ?_⟩
  · intro n s ⟨h1, h2, h3⟩
    refine br_t (nI_le (Nat.le_refl _) (by omega)) (sd_st q rfl hq (by decide) (h s.1 s.2 ⟨⟨h1.1.trans hz0.symm, fun j hj => h1.2 j ?_⟩, h2, h3⟩))
    have e : pz (q * 4) = nI L0 := hz0
    rw [e, nI_clamp (by omega)] at hj
    exact hj
  · intro n i s hi ⟨h1, h2, h3⟩ ih
    refine br_f (nI_ge hi (by omega)) ?_
    obtain ⟨L, hL1, hL2⟩ := hL (i + 1) (by omega)
    have g := h3 (q * 4 + i + 1) (by omega) (by omega)
    have e1 : nI (q * 4) + nI i = nI (q * 4 + i) := nI_add _ _
    have e2 : nI (q * 4) + nI i + 1 = nI (q * 4 + i + 1) := by rw [e1]; exact nI_1 _
    rw [e2, e1]
    refine sx_copy (f := q * 4 + i + 1) (t := q * 4 + i) (by omega) (by omega) hL1 (g.1.trans hL2) (nm_r (nI_1 i) (ih (sd_cp s.1 (q * 4 + i + 1) (q * 4 + i) L, upd s.2 (q * 4 + i) (nI L)) ⟨?_, ?_, ?_⟩))
    · refine ⟨?_, fun j hj => ?_⟩
      · show upd s.2 (q * 4 + i) (nI L) 51 = _
        rw [pk_un (by omega)]; exact h1.1
      · show sd_cp s.1 (q * 4 + i + 1) (q * 4 + i) L (816 + j) = _
        rw [sd_cpo L (816 + j) (by omega)]; exact h1.2 j hj
    · intro a ha
      by_cases e : a = i
      · subst e
        refine ⟨?_, fun j hj => ?_⟩
        · show upd s.2 (q * 4 + a) (nI L) (q * 4 + a) = _
          rw [pk_us]; exact hL2.symm
        · show sd_cp s.1 (q * 4 + a + 1) (q * 4 + a) L ((q * 4 + a) * 16 + j) = _
          have e : pz (q * 4 + a + 1) = nI L := hL2
          rw [e, nI_clamp (by omega)] at hj
          rw [sd_cpi (by omega) L hL1 j hj]
          exact g.2 j (by omega)
      · refine ⟨?_, fun j hj => ?_⟩
        · show upd s.2 (q * 4 + i) (nI L) (q * 4 + a) = _
          rw [pk_un (by omega)]; exact (h2 a (by omega)).1
        · show sd_cp s.1 (q * 4 + i + 1) (q * 4 + i) L ((q * 4 + a) * 16 + j) = _
          obtain ⟨L', hL1', hL2'⟩ := hL (a + 1) (by omega)
          have e : pz (q * 4 + a + 1) = nI L' := hL2'
          have hj' := hj
          rw [e, nI_clamp (by omega)] at hj'
          rw [sd_cpo L _ (by omega)]; exact (h2 a (by omega)).2 j hj
    · intro t ht hb
      refine ⟨?_, fun j hj => ?_⟩
      · show upd s.2 (q * 4 + i) (nI L) t = _
        rw [pk_un (by omega)]; exact (h3 t ht (by omega)).1
      · show sd_cp s.1 (q * 4 + i + 1) (q * 4 + i) L (t * 16 + j) = _
        rw [sd_cpo L _ (by omega)]; exact (h3 t ht (by omega)).2 j hj
  · dsimp only
    refine ⟨⟨pk_us, fun j hj => ?_⟩, fun a ha => absurd ha (by omega), fun t ht _ => ⟨pk_un (by omega), fun j hj => ?_⟩⟩
    · exact sd_cpi (t := 51) (by omega) L0 hL0 j hj
    · exact sd_cpo L0 _ (by omega)
-- Y's pull
def sd_gt (yb : Nat → Int32) (q : Nat) (gt : Nat → Int32) : Nat → (Nat → Int32)
  | 0 => gt
  | i + 1 => upd (sd_gt yb q gt i) i (yb (64 * q + i))
theorem sd_gti {q : Nat} : ∀ (i j : Nat), j < i → sd_gt yb q gt i j = yb (64 * q + j)
  | 0, j, h => absurd h (by omega)
  | i + 1, j, h => by
    show upd (sd_gt yb q gt i) i (yb (64 * q + i)) j = _
    by_cases e : j = i
    · subst e; rw [pk_us]
    · rw [pk_un e]; exact sd_gti i j (by omega)
/-- c cells from b on move down by d -/
def sd_sh (a : Nat → Int32) (b d : Nat) : Nat → (Nat → Int32)
  | 0 => a
  | i + 1 => upd (sd_sh a b d i) (b + i) (sd_sh a b d i (b + i + d))
theorem sd_sho {a : Nat → Int32} {b d : Nat} : ∀ (i j : Nat), (j < b ∨ b + i ≤ j) → sd_sh a b d i j = a j
  | 0, j, h => rfl
  | i + 1, j, h => by
    show upd (sd_sh a b d i) (b + i) _ j = _
    rw [pk_un (by omega)]
    exact sd_sho i j (by omega)
theorem sd_shi {a : Nat → Int32} {b d : Nat} (hd : 0 < d) : ∀ (i j : Nat), j < i → sd_sh a b d i (b + j) = a (b + j + d)
  | 0, j, h => absurd h (by omega)
  | i + 1, j, h => by
    show upd (sd_sh a b d i) (b + i) (sd_sh a b d i (b + i + d)) (b + j) = _
    by_cases e : j = i
    · subst e; rw [pk_us]; exact sd_sho j _ (by omega)
    · rw [pk_un (by omega)]; exact sd_shi hd i j (by omega)
theorem sy_p111 {post : Int32 → SY → Prop} {q : Nat} (hq : q < 12) (h : post gl (sc, oc, tl, tt, bt, ma, ol, tp, sb, sd, tk, dr, ay, gl, fw, fv, hv, ta, lk, go, ca, cv, cm, cg, opn, ow, oq, ox, rg, sw, sa, sz, sg, ho, kf, kk, ra, ac, ea, eb, ch, th, mv, mm, ty, bi, mk, rc, mr, md, mt, gp, (sd_sh yb (64 * q) 16 48), le, qc, qe, qq, tq, lc, gt)) : ∃ n, wY_pull_111 post (nI q) sc oc tl tt bt ma ol tp sb sd tk dr ay gl n (nI (64 * q)) fw fv hv ta lk go ca cv cm cg opn ow oq ox rg sw sa sz sg ho kf kk ra ac ea eb ch th mv mm ty bi mk rc mr md mt gp yb le qc qe qq tq lc gt := by
  have e : 64 * nI q + 48 = nI (64 * q + 48) := sd_am q 64 48
  refine sd_lp (fun n i s => wY_pull_111 post (nI q) sc oc tl tt bt ma ol tp sb sd tk dr ay gl n (nI (64 * q + i)) fw fv hv ta lk go ca cv cm cg opn ow oq ox rg sw sa sz sg ho kf kk ra ac ea eb ch th mv mm ty bi mk rc mr md mt gp s le qc qe qq tq lc gt) (fun i => sd_sh yb (64 * q) 16 i) 48 0 (by omega) (fun n => br_t (by rw [e]; exact nI_le (Nat.le_refl _) (by omega)) h)
    (fun n i _ hi ih => br_f (by rw [e]; exact nI_ge (by omega) (by omega)) ⟨?_, ?_⟩)
  · have e2 : nI (64 * q + i) + 16 = nI (64 * q + i + 16) := nI_add _ 16
    rw [e2]; exact vp_in_nI (by omega) (by decide)
  · have e2 : nI (64 * q + i) + 16 = nI (64 * q + i + 16) := nI_add _ 16
    rw [e2, nI_clamp (n := 64 * q + i + 16) (by omega)]
    exact sd_st (64 * q + i) rfl (by omega) (by decide) (nm_r (nI_1 _) ih)
theorem sy_p72 {post : Int32 → SY → Prop} {q C : Nat} (hq : q < 12) (hC : C < 4) (hc : qc q = nI C) (h : post gl (sc, oc, tl, tt, bt, ma, ol, tp, sb, sd, tk, dr, ay, gl, fw, fv, hv, ta, lk, go, ca, cv, cm, cg, opn, ow, oq, ox, rg, sw, sa, sz, sg, ho, kf, kk, ra, ac, ea, eb, ch, th, mv, mm, ty, bi, mk, rc, mr, md, mt, gp, (sd_sh yb (64 * q) 16 48), (sd_sh le (4 * q) 1 C), qc, qe, qq, tq, lc, gt)) : ∃ n, wY_pull_72 post (nI q) sc oc tl tt bt ma ol tp sb sd tk dr ay gl n (nI (4 * q)) fw fv hv ta lk go ca cv cm cg opn ow oq ox rg sw sa sz sg ho kf kk ra ac ea eb ch th mv mm ty bi mk rc mr md mt gp yb le qc qe qq tq lc gt := by
  have e : 4 * nI q + nI C = nI (4 * q + C) := sd_am q 4 C
  refine sd_lp (fun n i s => wY_pull_72 post (nI q) sc oc tl tt bt ma ol tp sb sd tk dr ay gl n (nI (4 * q + i)) fw fv hv ta lk go ca cv cm cg opn ow oq ox rg sw sa sz sg ho kf kk ra ac ea eb ch th mv mm ty bi mk rc mr md mt gp yb s qc qe qq tq lc gt) (fun i => sd_sh le (4 * q) 1 i) C 0 (by omega) (fun n => ⟨vp_in_nI hq (by decide), ?_⟩)
    (fun n i _ hi ih => ⟨vp_in_nI hq (by decide), ?_⟩)
  · rw [nI_clamp (n := q) (by omega), hc, e]
    exact br_t (nI_le (Nat.le_refl _) (by omega)) (nm_r (pk_mul 64 q) (sy_p111 hq h))
  · rw [nI_clamp (n := q) (by omega), hc, e]
    refine br_f (nI_ge (by omega) (by omega)) ?_
    have e2 : nI (4 * q + i) + 1 = nI (4 * q + i + 1) := nI_1 _
    rw [e2, nI_clamp (n := 4 * q + i + 1) (by omega)]
    exact ⟨vp_in_nI (by omega) (by decide), sd_st (4 * q + i) rfl (by omega) (by decide) (nm_e ih)⟩
theorem sy_pull {post : Int32 → SY → Prop} {q C : Nat} (hq : q < 12) (hC : C < 4) (hc : qc q = nI (C + 1))
    (h : post (le (4 * q)) (sc, oc, tl, tt, bt, ma, ol, tp, sb, sd, tk, dr, ay, (le (4 * q)), fw, fv, hv, ta, lk, go, ca, cv, cm, cg, opn, ow, oq, ox, rg, sw, sa, sz, sg, ho, kf, kk, ra, ac, ea, eb, ch, th, mv, mm, ty, bi, mk, rc, mr, md, mt, gp, (sd_sh yb (64 * q) 16 48), (sd_sh le (4 * q) 1 C), (upd qc q (nI C)), (upd qe q (qe q - (4 + le (4 * q)))), qq, tq, lc, (sd_gt yb q gt 16))) : wpY_pull post (sc, oc, tl, tt, bt, ma, ol, tp, sb, sd, tk, dr, ay, gl, fw, fv, hv, ta, lk, go, ca, cv, cm, cg, opn, ow, oq, ox, rg, sw, sa, sz, sg, ho, kf, kk, ra, ac, ea, eb, ch, th, mv, mm, ty, bi, mk, rc, mr, md, mt, gp, yb, le, qc, qe, qq, tq, lc, gt) (nI q) := by
  unfold wpY_pull
  have e4 : 4 * nI q = nI (4 * q) := pk_mul 4 q
  rw [e4, nI_clamp (n := 4 * q) (by omega)]
  refine ⟨vp_in_nI (by omega) (by decide), nm_e ⟨vp_in_nI hq (by decide), ?_⟩⟩
  rw [nI_clamp (n := q) (by omega)]
  refine ⟨vp_in_nI hq (by decide), nm_e ?_⟩
  refine sd_lp (fun n i s => wY_pull_29 post (nI q) sc oc tl tt bt ma ol tp sb sd tk dr ay (le (4 * q)) n (nI i) fw fv hv ta lk go ca cv cm cg opn ow oq ox rg sw sa sz sg ho kf kk ra ac ea eb ch th mv mm ty bi mk rc mr md mt gp yb le qc (upd qe q (qe q - (4 + le (4 * q)))) qq tq lc s) (fun i => sd_gt yb q gt i) 16 0 (by omega) (fun n => br_t (nI_le (a := 16) (b := 16) (Nat.le_refl _) (by omega)) ⟨vp_in_nI hq (by decide), ?_⟩)
    (fun n i _ hi ih => br_f (nI_ge (b := 16) hi (by omega)) ?_)
  · rw [nI_clamp (n := q) (by omega), hc, nI_pred, e4]
    exact ⟨vp_in_nI hq (by decide), nm_e (nm_e (sy_p72 hq hC pk_us h))⟩
  · have e : 64 * nI q + nI i = nI (64 * q + i) := sd_am q 64 i
    rw [e, nI_clamp (n := 64 * q + i) (by omega)]
    exact ⟨vp_in_nI (by omega) (by decide), sd_st i rfl hi (by decide) (nm_r (nI_1 i) ih)⟩
end
