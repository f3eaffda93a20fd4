section
variable {sc oc bt bb da ag lo tp sb sd tk : Int32} {fw fv hv sts ops opn rg kf kk th ens mv mm sps ho pb pz rc mr md mt gp qc qq qe lc tq : Nat → Int32} {tl tt ma ol dr ay gl : Int32} {ta lk go ca cv cm cg ow oq ox sw sa sz sg ra ac ea eb ch ty bi mk yb le gt : Nat → Int32}
def sd_pe (qc qe : Nat → Int32) (p c : Nat) : Nat → Int32 := if qc (3 * p + c) = 0 then upd qe (3 * p + c) 0 else qe
def sd_pq (qc qq qe : Nat → Int32) (p c : Nat) : Nat → Int32 := upd (sd_pe qc qe p c) (3 * p + (c + 1) % 3) (sd_pe qc qe p c (3 * p + (c + 1) % 3) + qq (3 * p + (c + 1) % 3))
theorem sd_3' (p c : Nat) : nI p * 3 + nI c = nI (3 * p + c) := (sd_ma p 3 c).trans (by rw [Nat.mul_comm])
theorem sd_3 (p c : Nat) : 3 * nI p + nI c = nI (3 * p + c) := sd_am p 3 c
theorem sd_r3 {c : Nat} (hc : c < 3) : nI c + 1 - (nI c + 1) / 3 * 3 = nI ((c + 1) % 3) := by
  rw [nI_1]
  exact pk_rem (d := 3) (by omega) (by decide) (by decide)
theorem sx_p27 {post : SX → Prop} {p c : Nat} (hp : p < 4) (hc : c < 3) (ht : tq p = nI c) (h : post (sc, oc, bt, bb, da, ag, lo, tp, sb, sd, tk, fw, fv, hv, sts, ops, opn, rg, kf, kk, th, ens, mv, mm, sps, ho, pb, pz, rc, mr, md, mt, gp, qc, qq, (upd qe (3 * p + (c + 1) % 3) (qe (3 * p + (c + 1) % 3) + qq (3 * p + (c + 1) % 3))), lc, (upd tq p (nI ((c + 1) % 3))))) : wX_passTurn_27 post (nI p) sc oc bt bb da ag lo tp sb sd tk fw fv hv sts ops opn rg kf kk th ens mv mm sps ho pb pz rc mr md mt gp qc qq qe lc tq := by
  refine ⟨vp_in_nI hp (by decide), by decide, ?_⟩
  rw [nI_clamp (n := p) (by omega), ht, sd_r3 hc]
  refine ⟨vp_in_nI hp (by decide), nm_e ⟨vp_in_nI hp (by decide), ?_⟩⟩
  rw [pk_us]
  refine nm_r (sd_3' p _) ?_
  rw [nI_clamp (by omega)]
  exact ⟨vp_in_nI (by omega) (by decide), vp_in_nI (by omega) (by decide), vp_in_nI (by omega) (by decide), nm_e h⟩
theorem sx_pass {post : SX → Prop} {p c : Nat} (hp : p < 4) (hc : c < 3) (ht : tq p = nI c) (h : post (sc, oc, bt, bb, da, ag, lo, tp, sb, sd, tk, fw, fv, hv, sts, ops, opn, rg, kf, kk, th, ens, mv, mm, sps, ho, pb, pz, rc, mr, md, mt, gp, qc, qq, (sd_pq qc qq qe p c), lc, (upd tq p (nI ((c + 1) % 3))))) : wpX_passTurn post (sc, oc, bt, bb, da, ag, lo, tp, sb, sd, tk, fw, fv, hv, sts, ops, opn, rg, kf, kk, th, ens, mv, mm, sps, ho, pb, pz, rc, mr, md, mt, gp, qc, qq, qe, lc, tq) (nI p) := by
  unfold wpX_passTurn
  refine ⟨vp_in_nI hp (by decide), ?_⟩
  rw [nI_clamp (n := p) (by omega), ht]
  refine nm_r (sd_3' p c) ⟨vp_in_nI (by omega) (by decide), ?_⟩
  rw [nI_clamp (by omega)]
  refine br_c (fun z => ⟨vp_in_nI (by omega) (by decide), nm_e (sx_p27 hp hc ht ?_)⟩) (fun z => sx_p27 hp hc ht ?_)
  · unfold sd_pq sd_pe at h
    rw [if_pos z] at h
    exact h
  · unfold sd_pq sd_pe at h
    rw [if_neg z] at h
    exact h
theorem sy_p99 {post : Int32 → SY → Prop} {n p c : Nat} (hp : p < 4) (hc : c < 3) (ht : tq p = nI c) (h : wY_fetch_55 post (nI p) sc oc tl tt bt ma ol tp sb sd tk dr ay gl n (nI (3 * p + (c + 1) % 3)) fw fv hv ta lk go ca cv cm cg opn ow oq ox rg sw sa sz sg ho kf kk ra ac ea eb ch th mv mm ty bi mk rc mr md mt gp yb le qc (upd qe (3 * p + (c + 1) % 3) (qe (3 * p + (c + 1) % 3) + qq (3 * p + (c + 1) % 3))) qq (upd tq p (nI ((c + 1) % 3))) lc gt) : wY_fetch_99 post (wY_fetch_55 post (nI p) sc oc tl tt bt ma ol tp sb sd tk dr ay gl n) (nI p) sc oc tl tt bt ma ol tp sb sd tk dr ay gl fw fv hv ta lk go ca cv cm cg opn ow oq ox rg sw sa sz sg ho kf kk ra ac ea eb ch th mv mm ty bi mk rc mr md mt gp yb le qc qe qq tq lc gt := by
  refine ⟨vp_in_nI hp (by decide), by decide, ?_⟩
  rw [nI_clamp (n := p) (by omega), ht, sd_r3 hc]
  refine ⟨vp_in_nI hp (by decide), nm_e ⟨vp_in_nI hp (by decide), ?_⟩⟩
  rw [pk_us]
  refine nm_r (sd_3 p _) ?_
  rw [nI_clamp (by omega)]
  exact ⟨vp_in_nI (by omega) (by decide), vp_in_nI (by omega) (by decide), vp_in_nI (by omega) (by decide), nm_e h⟩
theorem sy_pass {post : Int32 → SY → Prop} {n p c : Nat} (hp : p < 4) (hc : c < 3) (ht : tq p = nI c) (h : wY_fetch_55 post (nI p) sc oc tl tt bt ma ol tp sb sd tk dr ay gl n (nI (3 * p + (c + 1) % 3)) fw fv hv ta lk go ca cv cm cg opn ow oq ox rg sw sa sz sg ho kf kk ra ac ea eb ch th mv mm ty bi mk rc mr md mt gp yb le qc (sd_pq qc qq qe p c) qq (upd tq p (nI ((c + 1) % 3))) lc gt) : wY_fetch_83 post (wY_fetch_55 post (nI p) sc oc tl tt bt ma ol tp sb sd tk dr ay gl n) (nI p) (nI (3 * p + c)) sc oc tl tt bt ma ol tp sb sd tk dr ay gl fw fv hv ta lk go ca cv cm cg opn ow oq ox rg sw sa sz sg ho kf kk ra ac ea eb ch th mv mm ty bi mk rc mr md mt gp yb le qc qe qq tq lc gt := by
  refine ⟨vp_in_nI (by omega) (by decide), ?_⟩
  rw [nI_clamp (by omega)]
  refine br_c (fun z => ⟨vp_in_nI (by omega) (by decide), nm_e (sy_p99 hp hc ht ?_)⟩) (fun z => sy_p99 hp hc ht ?_)
  · unfold sd_pq sd_pe at h
    rw [if_pos z] at h
    exact h
  · unfold sd_pq sd_pe at h
    rw [if_neg z] at h
    exact h
/-- what passing the turn makes of a credit -/
theorem sd_pqv {p c : Nat} (d : Nat) (hc : c < 3) (hd : d < 3) : sd_pq qc qq qe p c (3 * p + d) = if d = (c + 1) % 3 then qe (3 * p + d) + qq (3 * p + d) else if d = c ∧ qc (3 * p + c) = 0 then 0 else qe (3 * p + d) := by
  have n : 3 * p + (c + 1) % 3 ≠ 3 * p + c := by omega
  have ev : ∀ i, i ≠ 3 * p + c → sd_pe qc qe p c i = qe i := by
    intro i hi
    unfold sd_pe
    by_cases z : qc (3 * p + c) = 0
    · rw [if_pos z, pk_un hi]
    · rw [if_neg z]
  unfold sd_pq
  by_cases e : d = (c + 1) % 3
  · rw [if_pos e, e, pk_us, ev _ n]
  · rw [if_neg e, pk_un (by omega)]
    by_cases e2 : d = c
    · subst e2
      unfold sd_pe
      by_cases z : qc (3 * p + d) = 0
      · rw [if_pos z, if_pos ⟨rfl, z⟩, pk_us]
      · rw [if_neg z, if_neg (fun y => z y.2)]
    · rw [if_neg (fun y => e2 y.1), ev _ (by omega)]
theorem sd_pqo {p c i : Nat} (hc : c < 3) (hi : i < 3 * p ∨ 3 * p + 3 ≤ i) : sd_pq qc qq qe p c i = qe i := by
  unfold sd_pq sd_pe
  rw [pk_un (by omega)]
  by_cases z : qc (3 * p + c) = 0
  · rw [if_pos z, pk_un (by omega)]
  · rw [if_neg z]
theorem sd_Qp (hQ : sd_Q qq qe tq) {p c e : Nat} (hp : p < 4) (hc : c < 3) (ht : tq p = nI c) (he : qe (3 * p + c) = nI e) (he2 : e ≤ 51) (h : qc (3 * p + c) = 0 ∨ e < 20) : sd_Q qq (sd_pq qc qq qe p c) (upd tq p (nI ((c + 1) % 3))) := by
  refine ⟨fun r hr => ?_, hQ.2.1, fun r hr d hd => ?_⟩
  · by_cases z : r = p
    · subst z; rw [pk_us]; exact ⟨(c + 1) % 3, by omega, rfl⟩
    · rw [pk_un z]; exact hQ.1 r hr
  · by_cases z : r = p
    · subst z
      rw [sd_pqv d hc hd, pk_us]
      obtain ⟨x, hx, hx1, hx2⟩ := hQ.2.2 r hr d hd
      by_cases z1 : d = (c + 1) % 3
      · rw [if_pos z1]
        obtain ⟨a, ha1, ha2, ha3⟩ := hQ.2.1 (3 * r + d) (by omega)
        have hx3 : x ≤ 19 := by
          rcases hx2 with hx2 | hx2
          · rw [ht] at hx2
            have := (nI_eq (by omega) (by omega)).mp hx2
            omega
          · exact hx2
        refine ⟨x + a, by omega, ?_, Or.inl (by rw [z1])⟩
        rw [hx1, ha3, nI_add]
      · rw [if_neg z1]
        by_cases z2 : d = c
        · subst z2
          by_cases z3 : qc (3 * r + d) = 0
          · rw [if_pos ⟨rfl, z3⟩]
            exact ⟨0, by omega, rfl, Or.inr (by omega)⟩
          · rw [if_neg (fun y => z3 y.2)]
            refine ⟨e, he2, he, Or.inr ?_⟩
            rcases h with h | h
            · exact absurd h z3
            · omega
        · rw [if_neg (fun y => z2 y.1)]
          refine ⟨x, hx, hx1, Or.inr ?_⟩
          rcases hx2 with hx2 | hx2
          · rw [ht] at hx2
            have := (nI_eq (by omega) (by omega)).mp hx2
            omega
          · exact hx2
    · rw [sd_pqo hc (by omega), pk_un z]
      exact hQ.2.2 r hr d hd
theorem sd_cs {c : Nat} {x y : Int32} (h : c < 2 ^ 30) : nI (4 + c) = 4 + nI c := (nI_add 4 c).symm
theorem sd_fe {p : Nat} (hp : p < 4) (hW : sd_W pb pz qc le yb) {cs C0 : Nat} (hcs : cs < 3) (hC0 : C0 < 4) (hC : qc (3 * p + cs) = nI (C0 + 1)) :
    ∀ (m : Nat) (qe tq : Nat → Int32) (tu : Nat), tu + m ≤ 1000 → sd_Q qq qe tq →
    (∀ c e, tq p = nI c → c < 3 → qe (3 * p + cs) = nI e → e ≤ 51 → 3 * (20 - e) + (if c = cs then 3 else (cs + 3 - c) % 3) ≤ m) →
    ∃ (qe' tq' : Nat → Int32) (c C L e : Nat), c < 3 ∧ C < 4 ∧ L ≤ 16 ∧ 4 + L ≤ e ∧ e ≤ 51 ∧ sd_Q qq qe' tq' ∧ tq' p = nI c ∧ qc (3 * p + c) = nI (C + 1) ∧ le (4 * (3 * p + c)) = nI L ∧ qe' (3 * p + c) = nI e ∧ (∀ post : Int32 → SX → Prop, (∀ pb' pz', sd_K (3 * p + c) C pb pz pb' pz' → post (nI L) (sc, oc, bt, bb, da, ag, lo, tp, sb, sd, tk, fw, fv, hv, sts, ops, opn, rg, kf, kk, th, ens, mv, mm, sps, ho, pb', pz', rc, mr, md, mt, gp, (upd qc (3 * p + c) (nI C)), qq, (upd qe' (3 * p + c) (nI (e - (4 + L)))), lc, tq')) → wX_fetch_19 post (nI p) (m + 1) (nI tu) sc oc bt bb da ag lo tp sb sd tk fw fv hv sts ops opn rg kf kk th ens mv mm sps ho pb pz rc mr md mt gp qc qq qe lc tq) ∧ (∀ post : Int32 → SY → Prop, post (nI L) (sc, oc, tl, tt, bt, ma, ol, tp, sb, sd, tk, dr, ay, (nI L), fw, fv, hv, ta, lk, go, ca, cv, cm, cg, opn, ow, oq, ox, rg, sw, sa, sz, sg, ho, kf, kk, ra, ac, ea, eb, ch, th, mv, mm, ty, bi, mk, rc, mr, md, mt, gp, (sd_sh yb (64 * (3 * p + c)) 16 48), (sd_sh le (4 * (3 * p + c)) 1 C), (upd qc (3 * p + c) (nI C)), (upd qe' (3 * p + c) (nI (e - (4 + L)))), qq, tq', lc, (sd_gt yb (3 * p + c) gt 16)) → wY_fetch_55 post (nI p) sc oc tl tt bt ma ol tp sb sd tk dr ay gl (m + 1) (3 * nI p + tq p) fw fv hv ta lk go ca cv cm cg opn ow oq ox rg sw sa sz sg ho kf kk ra ac ea eb ch th mv mm ty bi mk rc mr md mt gp yb le qc qe qq tq lc gt) := by
  intro m
  induction m with
  | zero =>
    intro qe tq tu htu hQ hm
    exfalso
    obtain ⟨c, hc, ht⟩ := hQ.1 p hp
    obtain ⟨e, he, he1, _⟩ := hQ.2.2 p hp cs hcs
    have g := hm c e ht hc he1 he
    by_cases z : c = cs
    · rw [if_pos z] at g; omega
    · rw [if_neg z] at g; omega
  | succ m ih =>
    intro qe tq tu htu hQ hm
    obtain ⟨c, hc, ht⟩ := hQ.1 p hp
    obtain ⟨e, he, he1, he2⟩ := hQ.2.2 p hp c hc
    obtain ⟨C, hC4, hqc, hsl⟩ := hW (3 * p + c) (by omega)
    have ix : nI p * 3 + nI c = nI (3 * p + c) := sd_3' p c
    have iy : 3 * nI p + nI c = nI (3 * p + c) := sd_3 p c
    have i4 : nI (3 * p + c) * 4 = nI ((3 * p + c) * 4) := pk_mul _ 4
    have i4' : 4 * nI (3 * p + c) = nI (4 * (3 * p + c)) := pk_mul 4 _
    -- the turn passes
    have pass : (qc (3 * p + c) = 0 ∨ e < 20) →
        (∀ post : Int32 → SX → Prop, wX_fetch_92 post (wX_fetch_19 post (nI p) (m + 1)) (nI p) (nI tu) sc oc bt bb da ag lo tp sb sd tk fw fv hv sts ops opn rg kf kk th ens mv mm sps ho pb pz rc mr md mt gp qc qq qe lc tq → wX_fetch_19 post (nI p) (m + 1 + 1) (nI tu) sc oc bt bb da ag lo tp sb sd tk fw fv hv sts ops opn rg kf kk th ens mv mm sps ho pb pz rc mr md mt gp qc qq qe lc tq) →
        (∀ post : Int32 → SY → Prop, wY_fetch_83 post (wY_fetch_55 post (nI p) sc oc tl tt bt ma ol tp sb sd tk dr ay gl (m + 1)) (nI p) (nI (3 * p + c)) sc oc tl tt bt ma ol tp sb sd tk dr ay gl fw fv hv ta lk go ca cv cm cg opn ow oq ox rg sw sa sz sg ho kf kk ra ac ea eb ch th mv mm ty bi mk rc mr md mt gp yb le qc qe qq tq lc gt → wY_fetch_55 post (nI p) sc oc tl tt bt ma ol tp sb sd tk dr ay gl (m + 1 + 1) (3 * nI p + tq p) fw fv hv ta lk go ca cv cm cg opn ow oq ox rg sw sa sz sg ho kf kk ra ac ea eb ch th mv mm ty bi mk rc mr md mt gp yb le qc qe qq tq lc gt) → ∃ (qe' tq' : Nat → Int32) (c C L e : Nat), c < 3 ∧ C < 4 ∧ L ≤ 16 ∧ 4 + L ≤ e ∧ e ≤ 51 ∧ sd_Q qq qe' tq' ∧ tq' p = nI c ∧ qc (3 * p + c) = nI (C + 1) ∧ le (4 * (3 * p + c)) = nI L ∧ qe' (3 * p + c) = nI e ∧ (∀ post : Int32 → SX → Prop, (∀ pb' pz', sd_K (3 * p + c) C pb pz pb' pz' → post (nI L) (sc, oc, bt, bb, da, ag, lo, tp, sb, sd, tk, fw, fv, hv, sts, ops, opn, rg, kf, kk, th, ens, mv, mm, sps, ho, pb', pz', rc, mr, md, mt, gp, (upd qc (3 * p + c) (nI C)), qq, (upd qe' (3 * p + c) (nI (e - (4 + L)))), lc, tq')) → wX_fetch_19 post (nI p) (m + 1 + 1) (nI tu) sc oc bt bb da ag lo tp sb sd tk fw fv hv sts ops opn rg kf kk th ens mv mm sps ho pb pz rc mr md mt gp qc qq qe lc tq) ∧ (∀ post : Int32 → SY → Prop, post (nI L) (sc, oc, tl, tt, bt, ma, ol, tp, sb, sd, tk, dr, ay, (nI L), fw, fv, hv, ta, lk, go, ca, cv, cm, cg, opn, ow, oq, ox, rg, sw, sa, sz, sg, ho, kf, kk, ra, ac, ea, eb, ch, th, mv, mm, ty, bi, mk, rc, mr, md, mt, gp, (sd_sh yb (64 * (3 * p + c)) 16 48), (sd_sh le (4 * (3 * p + c)) 1 C), (upd qc (3 * p + c) (nI C)), (upd qe' (3 * p + c) (nI (e - (4 + L)))), qq, tq', lc, (sd_gt yb (3 * p + c) gt 16)) → wY_fetch_55 post (nI p) sc oc tl tt bt ma ol tp sb sd tk dr ay gl (m + 1 + 1) (3 * nI p + tq p) fw fv hv ta lk go ca cv cm cg opn ow oq ox rg sw sa sz sg ho kf kk ra ac ea eb ch th mv mm ty bi mk rc mr md mt gp yb le qc qe qq tq lc gt) := by
      intro hps hx hy
      have Q' := sd_Qp (qc := qc) hQ hp hc ht he1 he hps
      have hm' : ∀ c' e', upd tq p (nI ((c + 1) % 3)) p = nI c' → c' < 3 → sd_pq qc qq qe p c (3 * p + cs) = nI e' → e' ≤ 51 → 3 * (20 - e') + (if c' = cs then 3 else (cs + 3 - c') % 3) ≤ m := by
        intro c' e' hc' hc3 he' he51
        rw [pk_us] at hc'
        have hc'' := (nI_eq (by omega) (by omega)).mp hc'
        rw [sd_pqv cs hc hcs] at he'
        obtain ⟨x, hx, hx1, hx2⟩ := hQ.2.2 p hp cs hcs
        have g := hm c x ht hc hx1 hx
        by_cases z1 : cs = (c + 1) % 3
        · rw [if_pos z1] at he'
          obtain ⟨a, ha1, ha2, ha3⟩ := hQ.2.1 (3 * p + cs) (by omega)
          rw [hx1, ha3, nI_add] at he'
          have he'' := (nI_eq (by omega) (by omega)).mp he'
          have hx3 : x ≤ 19 := by
            rcases hx2 with hx2 | hx2
            · rw [ht] at hx2
              have := (nI_eq (by omega) (by omega)).mp hx2
              omega
            · exact hx2
          rw [if_neg (by omega)] at g
          rw [if_pos (by omega)]
          omega
        · rw [if_neg z1, if_neg (fun y => by rw [← y.1, hC] at y; exact nI_ne0 (by omega) (by omega) y.2), hx1] at he'
          have he'' := (nI_eq (by omega) (by omega)).mp he'
          rw [if_neg (by omega)]
          by_cases z2 : c = cs
          · rw [if_pos z2] at g
            omega
          · rw [if_neg z2] at g
            omega
      obtain ⟨qe', tq', d, D, L, f, h1, h2, h3, h4, h5, h6, h7, h8, h9, h10, h11, h12⟩ := ih (sd_pq qc qq qe p c) (upd tq p (nI ((c + 1) % 3))) (tu + 1) (by omega) Q' hm'
      refine ⟨qe', tq', d, D, L, f, h1, h2, h3, h4, h5, h6, h7, h8, h9, h10, fun post k => hx post ?_, fun post k => hy post ?_⟩
      · exact sx_pass hp hc ht (nm_r (nI_1 tu) (h11 post k))
      · have g := h12 post k
        rw [pk_us, sd_3] at g
        exact sy_pass hp hc ht g
    by_cases hC1 : C = 0
    · refine pass (Or.inl (by rw [hqc, hC1]; rfl)) (fun post k => ?_) (fun post k => ?_)
      · refine br_f (nI_ge (b := 100000) (by omega) (by decide)) ⟨vp_in_nI hp (by decide), ?_⟩
        rw [nI_clamp (n := p) (by omega), ht]
        refine nm_r ix ⟨?_, nm_e ⟨vp_in_nI (by omega) (by decide), ?_⟩⟩
        · rw [i4]; exact vp_in_nI (by omega) (by decide)
        · rw [nI_clamp (n := 3 * p + c) (by omega), hqc, hC1]
          exact br_t (by decide) k
      · rw [ht, iy]
        refine ⟨vp_in_nI (by omega) (by decide), ?_⟩
        rw [nI_clamp (n := 3 * p + c) (by omega), hqc, hC1]
        exact br_t rfl k
    · obtain ⟨L, hL, hle, hpz, _⟩ := hsl 0 (by omega)
      have hle' : le (4 * (3 * p + c)) = nI L := hle
      have hpz' : pz ((3 * p + c) * 4) = nI L := hpz
      by_cases z : 4 + L ≤ e
      · obtain ⟨C', rfl⟩ : ∃ C', C = C' + 1 := ⟨C - 1, by omega⟩
        have sub : nI e - (4 + nI L) = nI (e - (4 + L)) := by
          have e1 : 4 + nI L = nI (4 + L) := nI_add 4 L
          rw [e1]
          exact pk_sub z
        refine ⟨qe, tq, c, C', L, e, hc, by omega, hL, z, he, hQ, ht, hqc, hle', he1, fun post k => ?_, fun post k => ?_⟩
        · refine br_f (nI_ge (b := 100000) (by omega) (by decide)) ⟨vp_in_nI hp (by decide), ?_⟩
          rw [nI_clamp (n := p) (by omega), ht]
          refine nm_r ix ⟨?_, ?_⟩
          · rw [i4]; exact vp_in_nI (by omega) (by decide)
          · rw [i4, nI_clamp (n := (3 * p + c) * 4) (by omega), hpz']
            refine nm_e ⟨vp_in_nI (by omega) (by decide), ?_⟩
            rw [nI_clamp (n := 3 * p + c) (by omega), hqc, he1, sub]
            refine br_f (nI_nle (by omega) (by omega)) ⟨vp_in_nI (by omega) (by decide), br_f ?_ ⟨vp_in_nI (by omega) (by decide), vp_in_nI (by omega) (by decide), nm_e ?_⟩⟩
            · have e1 : 4 + nI L = nI (4 + L) := nI_add 4 L
              rw [e1]
              exact nI_nlt z (by omega)
            · refine sx_take (by omega) (by omega) hqc (fun i hi => ?_) (fun pb' pz' hK => ?_)
              · obtain ⟨L', g1, g2, g3, _⟩ := hsl i (by omega)
                exact ⟨L', g1, g3⟩
              · have g := k pb' pz' hK
                have e : pz' 51 = nI L := hK.1.1.trans hpz'
                dsimp only
                rw [e]
                exact g
        · rw [ht, iy]
          refine ⟨vp_in_nI (by omega) (by decide), ?_⟩
          rw [nI_clamp (n := 3 * p + c) (by omega), hqc]
          refine br_f (nI_ne0 (by omega) (by omega)) ?_
          rw [i4', nI_clamp (n := 4 * (3 * p + c)) (by omega), hle', he1]
          refine ⟨vp_in_nI (by omega) (by decide), vp_in_nI (by omega) (by decide), br_t ?_ (sy_pull (by omega) (by omega) hqc ?_)⟩
          · have e1 : 4 + nI L = nI (4 + L) := nI_add 4 L
            rw [e1]
            exact nI_le z (by omega)
          · rw [hle', he1, sub]
            exact k
      · have nz : nI e < 4 + nI L := by
          have e1 : 4 + nI L = nI (4 + L) := nI_add 4 L
          rw [e1]
          exact nI_lt (by omega) (by omega)
        refine pass (Or.inr (by omega)) (fun post k => ?_) (fun post k => ?_)
        · refine br_f (nI_ge (b := 100000) (by omega) (by decide)) ⟨vp_in_nI hp (by decide), ?_⟩
          rw [nI_clamp (n := p) (by omega), ht]
          refine nm_r ix ⟨?_, ?_⟩
          · rw [i4]; exact vp_in_nI (by omega) (by decide)
          · rw [i4, nI_clamp (n := (3 * p + c) * 4) (by omega), hpz']
            refine nm_e ⟨vp_in_nI (by omega) (by decide), ?_⟩
            rw [nI_clamp (n := 3 * p + c) (by omega), hqc, he1]
            exact br_f (nI_nle (by omega) (by omega)) ⟨vp_in_nI (by omega) (by decide), br_t nz k⟩
        · rw [ht, iy]
          refine ⟨vp_in_nI (by omega) (by decide), ?_⟩
          rw [nI_clamp (n := 3 * p + c) (by omega), hqc]
          refine br_f (nI_ne0 (by omega) (by omega)) ?_
          rw [i4', nI_clamp (n := 4 * (3 * p + c)) (by omega), hle', he1]
          exact ⟨vp_in_nI (by omega) (by decide), vp_in_nI (by omega) (by decide), br_f (Int32.not_le.mpr nz) k⟩
end
