section
variable {sc oc bt bb da ag lo tp sb sd tk : Int32} {fw fv hv sts ops opn rg kf kk th ens mv mm sps ho pb pz rc mr md mt gp qc qq qe lc tq : Nat → Int32} {tl tt ma ol dr ay gl : Int32} {ta lk go ca cv cm cg ow oq ox sw sa sz sg ra ac ea eb ch ty bi mk yb le gt : Nat → Int32}
/-- the first i entries of table t are no more there -/
def sd_kt (th : Nat → Int32) (t : Nat) : Nat → (Nat → Int32)
  | 0 => th
  | i + 1 => upd (sd_kt th t i) (13 * t + i) 0
theorem sd_kt0 {t : Nat} : ∀ (i j : Nat), 13 * t ≤ j → j < 13 * t + i → sd_kt th t i j = 0
  | 0, j, h1, h2 => absurd h2 (by omega)
  | i + 1, j, h1, h2 => by
    show upd (sd_kt th t i) (13 * t + i) 0 j = 0
    by_cases e : j = 13 * t + i
    · rw [e, pk_us]
    · rw [pk_un e]
      exact sd_kt0 i j h1 (by omega)
theorem sd_kt1 {t : Nat} : ∀ (i j : Nat), (j < 13 * t ∨ 13 * t + i ≤ j) → sd_kt th t i j = th j
  | 0, j, h => rfl
  | i + 1, j, h => by
    show upd (sd_kt th t i) (13 * t + i) 0 j = _
    rw [pk_un (by omega)]
    exact sd_kt1 i j (by omega)
theorem sx_kl {post : Int32 → SX → Prop} {t : Nat} (ht : t < 4) (h : post 1 (sc, oc, bt, bb, da, ag, lo, tp, sb, sd, tk, fw, fv, hv, sts, ops, opn, rg, kf, kk, (sd_kt th t 12), ens, mv, mm, sps, ho, pb, pz, rc, mr, md, mt, gp, qc, qq, qe, lc, tq)) : ∃ n, wX_keys_115 post (nI t) sc oc bt bb da ag lo tp sb sd tk n 0 fw fv hv sts ops opn rg kf kk th ens mv mm sps ho pb pz rc mr md mt gp qc qq qe lc tq :=
  sd_lp (fun n i s => wX_keys_115 post (nI t) sc oc bt bb da ag lo tp sb sd tk n (nI i) fw fv hv sts ops opn rg kf kk s ens mv mm sps ho pb pz rc mr md mt gp qc qq qe lc tq) (fun i => sd_kt th t i) 12 0 (by omega) (fun n => br_t (nI_le (a := 12) (b := 12) (Nat.le_refl _) (by decide)) h)
    (fun n i _ hi ih => br_f (nI_ge (b := 12) hi (by decide)) (sd_st (13 * t + i) (sd_13' t i) (by omega) (by decide) (by rw [sd_b0]; exact nm_r (nI_1 i) ih)))
theorem sy_kl {post : Int32 → SY → Prop} {t : Nat} (ht : t < 4) (h : post 1 (sc, oc, tl, tt, bt, ma, ol, tp, sb, sd, tk, dr, ay, gl, fw, fv, hv, ta, lk, go, ca, cv, cm, cg, opn, ow, oq, ox, rg, sw, sa, sz, sg, ho, kf, kk, ra, ac, ea, eb, ch, (sd_kt th t 12), mv, mm, ty, bi, mk, rc, mr, md, mt, gp, yb, le, qc, qe, qq, tq, lc, gt)) : ∃ n, wY_keys_107 post (nI t) sc oc tl tt bt ma ol tp sb sd tk dr ay gl n 0 fw fv hv ta lk go ca cv cm cg opn ow oq ox rg sw sa sz sg ho kf kk ra ac ea eb ch th mv mm ty bi mk rc mr md mt gp yb le qc qe qq tq lc gt :=
  sd_lp (fun n i s => wY_keys_107 post (nI t) sc oc tl tt bt ma ol tp sb sd tk dr ay gl n (nI i) fw fv hv ta lk go ca cv cm cg opn ow oq ox rg sw sa sz sg ho kf kk ra ac ea eb ch s mv mm ty bi mk rc mr md mt gp yb le qc qe qq tq lc gt) (fun i => sd_kt th t i) 12 0 (by omega) (fun n => br_t (nI_le (a := 12) (b := 12) (Nat.le_refl _) (by decide)) h)
    (fun n i _ hi ih => br_f (nI_ge (b := 12) hi (by decide)) (sd_st (13 * t + i) (sd_13 t i) (by omega) (by decide) (by rw [sd_b0]; exact nm_r (nI_1 i) ih)))
theorem sd_Ek (hE : sd_E kf kk th ens mm ra ac ea eb ch) {t : Nat} (ht : t < 4) {f g a b : Int32} (hf : sd_rg 28 f) (hg : g = -1 ∨ sd_rg 28 g) (ha : sd_rg 3 a) (hb : sd_rg 3 b) :
    sd_E (upd (upd kf (2 * t) f) (2 * t + 1) g) (upd (upd kk (2 * t) a) (2 * t + 1) b) (sd_kt th t 12) ens mm ra ac ea eb ch := by
  refine ⟨fun s hs => ?_, fun i hi => ?_, hE.2.2.1, fun s hs e he h c hc hk => ?_⟩
  · by_cases e : s = t
    · subst e
      simp (disch := omega) only [pk_us, pk_un]
      exact ⟨hf, hg⟩
    · simp (disch := omega) only [pk_un]
      exact hE.1 s hs
  · by_cases e : i = 2 * t + 1
    · subst e; rw [pk_us]; exact hb
    · rw [pk_un e]
      by_cases e : i = 2 * t
      · subst e; rw [pk_us]; exact ha
      · rw [pk_un e]; exact hE.2.1 i hi
  · by_cases z : s = t
    · subst z
      exact absurd (sd_kt0 12 (13 * s + e) (by omega) (by omega)) h
    · rw [sd_kt1 12 (13 * s + e) (by omega)] at h
      simp (disch := omega) only [pk_un] at hk
      exact hE.2.2.2 s hs e he h c hc hk
theorem i_vc_keys {k : Nat} {u : SX} {v : SY} (I : i_Rel k u v) (hk : k + 7 ≤ 3584) (v1 : Int32) (v2 : Int32) (v3 : Int32) (v4 : Int32) (v5 : Int32) : wpX_keys (fun r u' => wpY_keys (fun r' v' => r' = r ∧ i_Rel (k + 7) u' v') v v1 v2 v3 v4 v5) u v1 v2 v3 v4 v5 := by
  refine sd_el (C := fun u v => wpX_keys (fun r u' => wpY_keys (fun r' v' => r' = r ∧ i_Rel (k + 7) u' v') v v1 v2 v3 v4 v5) u v1 v2 v3 v4 v5) I (fun sc oc bt bb da ag lo tp sb sd tk tl tt ma ol dr ay gl fw fv hv sts ops opn rg kf kk th ens mv mm sps ho pb pz rc mr md mt gp qc qq qe lc tq ta lk go ca cv cm cg ow oq ox sw sa sz sg ra ac ea eb ch ty bi mk yb le gt hF hS hO hE hP hH hT hU hG hW hQ => ?_)
  have J : i_Rel (k + 7) (sc, oc, bt, bb, da, ag, lo, tp, sb, sd, tk, fw, fv, hv, sts, ops, opn, rg, kf, kk, th, ens, mv, mm, sps, ho, pb, pz, rc, mr, md, mt, gp, qc, qq, qe, lc, tq) (sc, oc, tl, tt, bt, ma, ol, tp, sb, sd, tk, dr, ay, gl, fw, fv, hv, ta, lk, go, ca, cv, cm, cg, opn, ow, oq, ox, rg, sw, sa, sz, sg, ho, kf, kk, ra, ac, ea, eb, ch, th, mv, mm, ty, bi, mk, rc, mr, md, mt, gp, yb, le, qc, qe, qq, tq, lc, gt) := sd_mk hF hS hO hE hP hH hT hU hG hW hQ
  unfold wpX_keys wpY_keys
  rcases sd_cl 4 v1 with h | h
  · exact sx_AR 4 h (sy_in0 3 h (sd_w0 ⟨rfl, J⟩))
  · refine sx_AT 4 h ?_
    rcases sd_cl 28 v2 with f | f
    · exact sx_field0 f (sd_w0 (sy_in1 3 h (sd_w1 (sy_field0 f (sd_w0 ⟨rfl, J⟩)))))
    · refine sx_field1 f (sd_w1 ?_)
      rcases sd_cl 3 v3 with c | c
      · exact sx_kind0 c (sd_w0 (sy_in1 3 h (sd_w1 (sy_field1 f (sd_w1 (sy_in0 2 c (sd_w0 ⟨rfl, J⟩)))))))
      · refine sx_kind1 c (sd_w1 ?_)
        obtain ⟨t, ht, rfl⟩ := id h
        have i1 : nI t * 2 = nI (2 * t) := (pk_mul t 2).trans (by rw [Nat.mul_comm])
        have i2 : 2 * nI t = nI (2 * t) := pk_mul 2 t
        have i3 : nI t * 2 + 1 = nI (2 * t + 1) := by rw [i1]; exact nI_add _ 1
        have i4 : 2 * nI t + 1 = nI (2 * t + 1) := by rw [i2]; exact nI_add _ 1
        by_cases m : v4 = -1
        · subst m
          refine br_t rfl (br_f sd_10 (sd_st (2 * t) i1 (by omega) (by decide) (sd_st (2 * t) i1 (by omega) (by decide) (sd_st (2 * t + 1) i3 (by omega) (by decide) (br_f sd_10 (sd_st (2 * t + 1) i3 (by omega) (by decide) (sx_kl ht ?_)))))))
          refine sy_in1 3 h (sd_w1 (sy_field1 f (sd_w1 (sy_in1 2 c (sd_w1 (sy_inm1 27 (Or.inl rfl) (sd_w1 (br_t (by decide) ?_))))))))
          exact sd_st (2 * t) i2 (by omega) (by decide) (sd_st (2 * t) i2 (by omega) (by decide) (sd_st (2 * t + 1) i4 (by omega) (by decide) (br_f (by decide) (sd_st (2 * t + 1) i4 (by omega) (by decide) (sy_kl ht ⟨rfl, sd_mk hF hS hO (sd_Ek hE ht f (Or.inl rfl) c (sd_r0 (by omega))) hP hH hT hU hG hW hQ⟩)))))
        · refine br_f m (br_t rfl ?_)
          rcases sd_cl 28 v4 with g | g
          · refine sx_field0 g (sd_w0 ?_)
            have g' : sd_rm 28 v4 := by
              rcases sd_clm 28 v4 with g' | g' | g'
              · exact g'
              · exact absurd g' m
              · exact absurd g (fun g => sd_nj (by decide) g g')
            exact sy_in1 3 h (sd_w1 (sy_field1 f (sd_w1 (sy_in1 2 c (sd_w1 (sy_inm0 27 g' (sd_w0 ⟨rfl, J⟩)))))))
          · refine sx_field1 g (sd_w1 ?_)
            have n0 : ¬ v4 < 0 := by
              obtain ⟨j, hj, rfl⟩ := g
              exact nI_pos (by omega)
            have p0 : 0 ≤ v4 := Int32.not_lt.mp n0
            rcases sd_cl 3 v5 with d | d
            · exact sx_kind0 d (sd_w0 (sy_in1 3 h (sd_w1 (sy_field1 f (sd_w1 (sy_in1 2 c (sd_w1 (sy_inm1 27 (Or.inr g) (sd_w1 (br_f n0 (sy_in0 2 d (sd_w0 ⟨rfl, J⟩))))))))))))
            · refine sx_kind1 d (sd_w1 (sd_st (2 * t) i1 (by omega) (by decide) (sd_st (2 * t) i1 (by omega) (by decide) (sd_st (2 * t + 1) i3 (by omega) (by decide) (br_t rfl (sd_st (2 * t + 1) i3 (by omega) (by decide) (sx_kl ht ?_)))))))
              refine sy_in1 3 h (sd_w1 (sy_field1 f (sd_w1 (sy_in1 2 c (sd_w1 (sy_inm1 27 (Or.inr g) (sd_w1 (br_f n0 (sy_in1 2 d (sd_w1 ?_))))))))))
              exact sd_st (2 * t) i2 (by omega) (by decide) (sd_st (2 * t) i2 (by omega) (by decide) (sd_st (2 * t + 1) i4 (by omega) (by decide) (br_t p0 (sd_st (2 * t + 1) i4 (by omega) (by decide) (sy_kl ht ⟨rfl, sd_mk hF hS hO (sd_Ek hE ht f (Or.inr g) c d) hP hH hT hU hG hW hQ⟩)))))
-- entry
theorem sx_el {post : Int32 → SX → Prop} {x : Nat} (hx : x < 52) (h : post 1 (sc, oc, bt, bb, da, ag, lo, tp, sb, sd, tk, fw, fv, hv, sts, ops, opn, rg, kf, kk, th, ens, (upd (upd mv (2 * x) 0) (2 * x + 1) 0), (upd (upd mm (2 * x) 0) (2 * x + 1) 0), sps, ho, pb, pz, rc, mr, md, mt, gp, qc, qq, qe, lc, tq)) : ∃ n, wX_entry_151 post (nI x) sc oc bt bb da ag lo tp sb sd tk n 0 fw fv hv sts ops opn rg kf kk th ens mv mm sps ho pb pz rc mr md mt gp qc qq qe lc tq := by
  have i1 : nI x * 2 + 0 = nI (2 * x) := (sd_ma x 2 0).trans (by rw [Nat.mul_comm]; rfl)
  have i2 : nI x * 2 + 1 = nI (2 * x + 1) := (sd_ma x 2 1).trans (by rw [Nat.mul_comm])
  refine ⟨3, br_f (by decide) (sd_st (2 * x) i1 (by omega) (by decide) (sd_st (2 * x) i1 (by omega) (by decide) (nm_r (e' := 1) (by decide) ?_)))⟩
  refine br_f (by decide) (sd_st (2 * x + 1) i2 (by omega) (by decide) (sd_st (2 * x + 1) i2 (by omega) (by decide) (nm_r (e' := 2) (by decide) ?_)))
  exact br_t (by decide) h
theorem sy_el {post : Int32 → SY → Prop} {x : Nat} (hx : x < 52) (h : post 1 (sc, oc, tl, tt, bt, ma, ol, tp, sb, sd, tk, dr, ay, gl, fw, fv, hv, ta, lk, go, ca, cv, cm, cg, opn, ow, oq, ox, rg, sw, sa, sz, sg, ho, kf, kk, ra, ac, ea, eb, ch, th, (upd (upd mv (2 * x) 0) (2 * x + 1) 0), (upd (upd mm (2 * x) 0) (2 * x + 1) 0), ty, bi, mk, rc, mr, md, mt, gp, yb, le, qc, qe, qq, tq, lc, gt)) : ∃ n, wY_entry_142 post (nI x) sc oc tl tt bt ma ol tp sb sd tk dr ay gl n (nI (2 * x)) fw fv hv ta lk go ca cv cm cg opn ow oq ox rg sw sa sz sg ho kf kk ra ac ea eb ch th mv mm ty bi mk rc mr md mt gp yb le qc qe qq tq lc gt := by
  have i2 : 2 * nI x + 2 = nI (2 * x + 2) := sd_am x 2 2
  refine ⟨3, br_f (by rw [i2]; exact nI_ge (by omega) (by omega)) (sd_st (2 * x) rfl (by omega) (by decide) (sd_st (2 * x) rfl (by omega) (by decide) (nm_r (nI_1 _) ?_)))⟩
  refine br_f (by rw [i2]; exact nI_ge (by omega) (by omega)) (sd_st (2 * x + 1) rfl (by omega) (by decide) (sd_st (2 * x + 1) rfl (by omega) (by decide) (nm_r (nI_1 _) ?_)))
  exact br_t (by rw [i2]; exact nI_le (by omega) (by omega)) h
/-- the default of a table is set -/
theorem sd_Ed (hE : sd_E kf kk th ens mm ra ac ea eb ch) {x : Nat} (hx : x < 52) {a p q : Int32} (ha : sd_rg 8 a) :
    sd_E kf kk th (upd (upd (upd ens (x * 5 + 1) a) (x * 5 + 2) p) (x * 5 + 3) q) mm ra (upd ac x a) (upd ea x p) (upd eb x q) ch := by
  refine ⟨hE.1, hE.2.1, fun y hy => ?_, hE.2.2.2⟩
  by_cases e : y = x
  · subst e
    have g := hE.2.2.1 y hy
    simp (disch := omega) only [pk_us, pk_un]
    exact ⟨⟨g.1.1, trivial, trivial, trivial, g.1.2.2.2.2⟩, g.2.1, ha⟩
  · simp (disch := omega) only [pk_un]
    exact hE.2.2.1 y hy
theorem sd_En (hE : sd_E kf kk th ens mm ra ac ea eb ch) {t e : Nat} (ht : t < 4) (he : e < 12) {r : Int32} (hr : sd_rg 16 r) :
    sd_E kf kk (upd th (13 * t + e) 1) (upd (upd ens ((13 * t + e) * 5 + 0) r) ((13 * t + e) * 5 + 4) 0) (upd (upd mm (2 * (13 * t + e)) 0) (2 * (13 * t + e) + 1) 0) (upd ra (13 * t + e) r) ac ea eb (upd ch (13 * t + e) 0) := by
  refine ⟨hE.1, hE.2.1, fun y hy => ?_, fun s hs d hd h c hc hk => ?_⟩
  · by_cases z : y = 13 * t + e
    · subst z
      have g := hE.2.2.1 (13 * t + e) hy
      simp (disch := omega) only [pk_us, pk_un]
      exact ⟨⟨trivial, g.1.2.1, g.1.2.2.1, g.1.2.2.2.1, trivial⟩, hr, g.2.2⟩
    · simp (disch := omega) only [pk_un]
      exact hE.2.2.1 y hy
  · by_cases z : 13 * s + d = 13 * t + e
    · have : c = 0 ∨ c = 1 := by omega
      rw [z]
      rcases this with rfl | rfl
      · rw [pk_un (by omega), Nat.add_zero, pk_us]
        exact sd_r0 (by omega)
      · rw [pk_us]
        exact sd_r0 (by omega)
    · rw [pk_un z] at h
      rw [pk_un (by omega), pk_un (by omega)]
      exact hE.2.2.2 s hs d hd h c hc hk
theorem i_vc_entry {k : Nat} {u : SX} {v : SY} (I : i_Rel k u v) (hk : k + 7 ≤ 3584) (v1 : Int32) (v2 : Int32) (v3 : Int32) (v4 : Int32) (v5 : Int32) (v6 : Int32) : wpX_entry (fun r u' => wpY_entry (fun r' v' => r' = r ∧ i_Rel (k + 7) u' v') v v1 v2 v3 v4 v5 v6) u v1 v2 v3 v4 v5 v6 := by
  refine sd_el (C := fun u v => wpX_entry (fun r u' => wpY_entry (fun r' v' => r' = r ∧ i_Rel (k + 7) u' v') v v1 v2 v3 v4 v5 v6) u v1 v2 v3 v4 v5 v6) I (fun sc oc bt bb da ag lo tp sb sd tk tl tt ma ol dr ay gl fw fv hv sts ops opn rg kf kk th ens mv mm sps ho pb pz rc mr md mt gp qc qq qe lc tq ta lk go ca cv cm cg ow oq ox sw sa sz sg ra ac ea eb ch ty bi mk yb le gt hF hS hO hE hP hH hT hU hG hW hQ => ?_)
  have J : i_Rel (k + 7) (sc, oc, bt, bb, da, ag, lo, tp, sb, sd, tk, fw, fv, hv, sts, ops, opn, rg, kf, kk, th, ens, mv, mm, sps, ho, pb, pz, rc, mr, md, mt, gp, qc, qq, qe, lc, tq) (sc, oc, tl, tt, bt, ma, ol, tp, sb, sd, tk, dr, ay, gl, fw, fv, hv, ta, lk, go, ca, cv, cm, cg, opn, ow, oq, ox, rg, sw, sa, sz, sg, ho, kf, kk, ra, ac, ea, eb, ch, th, mv, mm, ty, bi, mk, rc, mr, md, mt, gp, yb, le, qc, qe, qq, tq, lc, gt) := sd_mk hF hS hO hE hP hH hT hU hG hW hQ
  unfold wpX_entry
  rcases sd_cl 4 v1 with h | h
  · refine sx_AR 4 h ?_
    unfold wpY_entry
    exact sy_in0 3 h (sd_w0 ⟨rfl, J⟩)
  · refine sx_AT 4 h ?_
    rcases sd_clm 12 v2 with e | e
    · refine sx_NR 12 e ?_
      unfold wpY_entry
      exact sy_in1 3 h (sd_w1 (sy_inm0 11 e (sd_w0 ⟨rfl, J⟩)))
    · refine sx_NT 12 e ?_
      -- what Y asks behind the first two tests
      have Y : ∀ {post : Int32 → SY → Prop}, (v2 < 0 → wY_entry_33 post v1 v2 v3 v4 v5 v6 sc oc tl tt bt ma ol tp sb sd tk dr ay gl fw fv hv ta lk go ca cv cm cg opn ow oq ox rg sw sa sz sg ho kf kk ra ac ea eb ch th mv mm ty bi mk rc mr md mt gp yb le qc qe qq tq lc gt) → (¬ v2 < 0 → wpY_in (fun r_34 => (((r_34 = 0 → (post 0 (sc, oc, tl, tt, bt, ma, ol, tp, sb, sd, tk, dr, ay, gl, fw, fv, hv, ta, lk, go, ca, cv, cm, cg, opn, ow, oq, ox, rg, sw, sa, sz, sg, ho, kf, kk, ra, ac, ea, eb, ch, th, mv, mm, ty, bi, mk, rc, mr, md, mt, gp, yb, le, qc, qe, qq, tq, lc, gt))) ∧ (¬ r_34 = 0 → (wY_entry_33 post v1 v2 v3 v4 v5 v6 sc oc tl tt bt ma ol tp sb sd tk dr ay gl fw fv hv ta lk go ca cv cm cg opn ow oq ox rg sw sa sz sg ho kf kk ra ac ea eb ch th mv mm ty bi mk rc mr md mt gp yb le qc qe qq tq lc gt))))) v3 0 15) → wpY_entry post (sc, oc, tl, tt, bt, ma, ol, tp, sb, sd, tk, dr, ay, gl, fw, fv, hv, ta, lk, go, ca, cv, cm, cg, opn, ow, oq, ox, rg, sw, sa, sz, sg, ho, kf, kk, ra, ac, ea, eb, ch, th, mv, mm, ty, bi, mk, rc, mr, md, mt, gp, yb, le, qc, qe, qq, tq, lc, gt) v1 v2 v3 v4 v5 v6 := by
        intro post a b
        unfold wpY_entry
        exact sy_in1 3 h (sd_w1 (sy_inm1 11 e (sd_w1 (br_c a b))))
      have Z : ∀ {post : Int32 → SY → Prop}, post 0 (sc, oc, tl, tt, bt, ma, ol, tp, sb, sd, tk, dr, ay, gl, fw, fv, hv, ta, lk, go, ca, cv, cm, cg, opn, ow, oq, ox, rg, sw, sa, sz, sg, ho, kf, kk, ra, ac, ea, eb, ch, th, mv, mm, ty, bi, mk, rc, mr, md, mt, gp, yb, le, qc, qe, qq, tq, lc, gt) → (sd_rj 8 v4 ∨ sd_rj 65536 v5 ∨ sd_rj 65536 v6) → wY_entry_33 post v1 v2 v3 v4 v5 v6 sc oc tl tt bt ma ol tp sb sd tk dr ay gl fw fv hv ta lk go ca cv cm cg opn ow oq ox rg sw sa sz sg ho kf kk ra ac ea eb ch th mv mm ty bi mk rc mr md mt gp yb le qc qe qq tq lc gt := by
        intro post p w
        unfold wY_entry_33
        rcases sd_cl 8 v4 with a | a
        · exact sy_in0 7 a (sd_w0 p)
        · refine sy_in1 7 a (sd_w1 ?_)
          rcases sd_cl 65536 v5 with b | b
          · exact sy_word0 b (sd_w0 p)
          · refine sy_word1 b (sd_w1 ?_)
            rcases sd_cl 65536 v6 with c | c
            · exact sy_word0 c (sd_w0 p)
            · exfalso
              rcases w with w | w | w
              · exact sd_nj (by decide) w a
              · exact sd_nj (by decide) w b
              · exact sd_nj (by decide) w c
      have ZZ : (sd_rj 8 v4 ∨ sd_rj 65536 v5 ∨ sd_rj 65536 v6) → wpY_entry (fun r' v' => r' = 0 ∧ i_Rel (k + 7) (sc, oc, bt, bb, da, ag, lo, tp, sb, sd, tk, fw, fv, hv, sts, ops, opn, rg, kf, kk, th, ens, mv, mm, sps, ho, pb, pz, rc, mr, md, mt, gp, qc, qq, qe, lc, tq) v') (sc, oc, tl, tt, bt, ma, ol, tp, sb, sd, tk, dr, ay, gl, fw, fv, hv, ta, lk, go, ca, cv, cm, cg, opn, ow, oq, ox, rg, sw, sa, sz, sg, ho, kf, kk, ra, ac, ea, eb, ch, th, mv, mm, ty, bi, mk, rc, mr, md, mt, gp, yb, le, qc, qe, qq, tq, lc, gt) v1 v2 v3 v4 v5 v6 := by
        intro w
        refine Y (fun _ => Z ⟨rfl, J⟩ w) (fun _ => ?_)
        rcases sd_cl 16 v3 with r | r
        · exact sy_in0 15 r (sd_w0 ⟨rfl, J⟩)
        · exact sy_in1 15 r (sd_w1 (Z ⟨rfl, J⟩ w))
      rcases sd_cl 8 v4 with a | a
      · exact sx_AR 8 a (ZZ (Or.inl a))
      · refine sx_AT 8 a ?_
        rcases sd_cl 65536 v5 with b | b
        · exact sx_word0 b (sd_w0 (ZZ (Or.inr (Or.inl b))))
        · refine sx_word1 b (sd_w1 ?_)
          rcases sd_cl 65536 v6 with c | c
          · exact sx_word0 c (sd_w0 (ZZ (Or.inr (Or.inr c))))
          · refine sx_word1 c (sd_w1 ?_)
            obtain ⟨t, ht, rfl⟩ := id h
            rcases e with rfl | ⟨e, he, rfl⟩
            · refine br_t rfl ?_
              unfold wX_entry_69
              have i0 : nI t * 13 + 12 = nI (13 * t + 12) := sd_13' t 12
              refine br_t rfl (nm_r (e' := nI ((13 * t + 12) * 5)) (by rw [i0]; exact pk_mul _ 5) (sd_st ((13 * t + 12) * 5 + 1) (nI_add _ 1) (by omega) (by decide) (sd_st ((13 * t + 12) * 5 + 2) (nI_add _ 2) (by omega) (by decide) (sd_st ((13 * t + 12) * 5 + 3) (nI_add _ 3) (by omega) (by decide) (br_t rfl ?_)))))
              refine Y (fun _ => ?_) (fun z => absurd (by decide) z)
              unfold wY_entry_33
              refine sy_in1 7 a (sd_w1 (sy_word1 b (sd_w1 (sy_word1 c (sd_w1 (br_f (by decide) (nm_r (e' := nI (13 * t + 12)) (sd_13 t 12) (sd_st (13 * t + 12) rfl (by omega) (by decide) (sd_st (13 * t + 12) rfl (by omega) (by decide) (sd_st (13 * t + 12) rfl (by omega) (by decide) (br_f (by decide) ⟨rfl, sd_mk hF hS hO (sd_Ed hE (by omega) a) hP hH hT hU hG hW hQ⟩)))))))))))
            · have n1 : ¬ nI e = -1 := sd_ne (by omega)
              have n0 : ¬ nI e < 0 := nI_pos (by omega)
              have p0 : 0 ≤ nI e := Int32.not_lt.mp n0
              refine br_f n1 ?_
              rcases sd_cl 16 v3 with r | r
              · exact sx_CR 15 r (Y (fun z => absurd z n0) (fun _ => sy_in0 15 r (sd_w0 ⟨rfl, J⟩)))
              · refine sx_CT 15 r ?_
                unfold wX_entry_69
                refine br_f n1 (nm_r (e' := nI ((13 * t + e) * 5)) (by rw [sd_13']; exact pk_mul _ 5) (sd_st ((13 * t + e) * 5 + 1) (nI_add _ 1) (by omega) (by decide) (sd_st ((13 * t + e) * 5 + 2) (nI_add _ 2) (by omega) (by decide) (sd_st ((13 * t + e) * 5 + 3) (nI_add _ 3) (by omega) (by decide) (br_f n1 ?_)))))
                rw [sd_13', sd_b1]
                refine sd_st (13 * t + e) rfl (by omega) (by decide) (sd_st ((13 * t + e) * 5 + 0) (nI_add _ 0) (by omega) (by decide) (sd_st ((13 * t + e) * 5 + 4) (nI_add _ 4) (by omega) (by decide) (sx_el (by omega) ?_)))
                refine Y (fun z => absurd z n0) (fun _ => sy_in1 15 r (sd_w1 ?_))
                unfold wY_entry_33
                refine sy_in1 7 a (sd_w1 (sy_word1 b (sd_w1 (sy_word1 c (sd_w1 (br_t p0 (nm_r (e' := nI (13 * t + e)) (sd_13 t e) (sd_st (13 * t + e) rfl (by omega) (by decide) (sd_st (13 * t + e) rfl (by omega) (by decide) (sd_st (13 * t + e) rfl (by omega) (by decide) (br_t p0 (sd_st (13 * t + e) rfl (by omega) (by decide) ?_))))))))))))
                rw [sd_b1]
                refine sd_st (13 * t + e) rfl (by omega) (by decide) (sd_st (13 * t + e) rfl (by omega) (by decide) (nm_r (pk_mul 2 (13 * t + e)) (sy_el (by omega) ⟨rfl, sd_mk hF hS hO (sd_En (sd_Ed hE (by omega) a) ht he r) hP hH hT hU hG hW hQ⟩)))
end
