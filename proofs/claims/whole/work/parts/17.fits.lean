section
variable {sc oc bt bb da ag lo tp sb sd tk : Int32} {fw fv hv sts ops opn rg kf kk th ens mv mm sps ho pb pz rc mr md mt gp qc qq qe lc tq : Nat → Int32} {tl tt ma ol dr ay gl : Int32} {ta lk go ca cv cm cg ow oq ox sw sa sz sg ra ac ea eb ch ty bi mk yb le gt : Nat → Int32}
def sd_on (w m : Int32) : Int32 := if m ≤ w then m else w
theorem sd_onE (w m : Int32) : sd_on w m = if w ≤ m then w else m := by
  unfold sd_on
  by_cases a : m ≤ w
  · by_cases b : w ≤ m
    · rw [if_pos a, if_pos b]; exact Int32.le_antisymm a b
    · rw [if_pos a, if_neg b]
  · have b : w ≤ m := Int32.le_of_lt (Int32.not_le.mp a)
    rw [if_neg a, if_pos b]
def sd_ms (k w m : Int32) : Int32 := if k = 2 then m else if k = 1 then (((1 : Int32) <<< (sd_on w m &&& 31)) - 1) <<< ((w - sd_on w m) &&& 31) else 65535
def sd_ok (kf kk fw fv mv mm : Nat → Int32) (t x c : Nat) : Prop :=
  kf (2 * t + c) = -1 ∨ (fv (kf (2 * t + c)).toNatClampNeg ^^^ mv (2 * x + c)) &&& sd_ms (kk (2 * t + c)) (fw (kf (2 * t + c)).toNatClampNeg) (mm (2 * x + c)) = 0
def sd_ln (kf kk fw mm : Nat → Int32) (t x c : Nat) : Int32 :=
  if kf (2 * t + c) = -1 then 0 else if kk (2 * t + c) = 1 then sd_on (fw (kf (2 * t + c)).toNatClampNeg) (mm (2 * x + c)) else 0
theorem sd_kfr (hE : sd_E kf kk th ens mm ra ac ea eb ch) {t c : Nat} (ht : t < 4) (hc : c < 2) : kf (2 * t + c) = -1 ∨ sd_rg 28 (kf (2 * t + c)) := by
  have : c = 0 ∨ c = 1 := by omega
  rcases this with rfl | rfl
  · exact Or.inr (hE.1 t ht).1
  · exact (hE.1 t ht).2
theorem sd_2x (x c : Nat) : nI x * 2 + nI c = nI (2 * x + c) := (sd_ma x 2 c).trans (by rw [Nat.mul_comm])
theorem sd_2y (x c : Nat) : 2 * nI x + nI c = nI (2 * x + c) := sd_am x 2 c
/-- X: behind the mask -/
theorem sx_p141 {post : Int32 → Prop} {J : Int32 → Int32 → Prop} {x1 s m : Int32} {x c f : Nat} (hx : x < 52) (hc : c < 2) (hf : f < 28) (h1 : (fv f ^^^ mv (2 * x + c)) &&& m = 0 → J s (nI (c + 1))) (h0 : ¬ (fv f ^^^ mv (2 * x + c)) &&& m = 0 → post (-1)) : wX_prefixOnesIfFits_141 post J x1 (nI x) s (nI c) (nI f) m sc oc bt bb da ag lo tp sb sd tk fw fv hv sts ops opn rg kf kk th ens mv mm sps ho pb pz rc mr md mt gp qc qq qe lc tq := by
  refine ⟨vp_in_nI hf (by decide), ?_⟩
  rw [sd_2x, nI_clamp (n := f) (by omega), nI_clamp (n := 2 * x + c) (by omega)]
  exact ⟨vp_in_nI (by omega) (by decide), br_c (fun z => sd_w1 (nm_r (nI_1 c) (h1 z))) (fun z => sd_w0 (h0 z))⟩
theorem sx_pf1 {post : Int32 → Prop} (hE : sd_E kf kk th ens mm ra ac ea eb ch) {t x c n : Nat} {s : Int32} (ht : t < 4) (hx : x < 52) (hc : c < 2)
    (h1 : sd_ok kf kk fw fv mv mm t x c → wX_prefixOnesIfFits_5 post (nI t) (nI x) sc oc bt bb da ag lo tp sb sd tk fw fv hv sts ops opn rg kf kk th ens mv mm sps ho pb pz rc mr md mt gp qc qq qe lc tq n (s + sd_ln kf kk fw mm t x c) (nI (c + 1))) (h0 : ¬ sd_ok kf kk fw fv mv mm t x c → post (-1)) : wX_prefixOnesIfFits_5 post (nI t) (nI x) sc oc bt bb da ag lo tp sb sd tk fw fv hv sts ops opn rg kf kk th ens mv mm sps ho pb pz rc mr md mt gp qc qq qe lc tq (n + 1) s (nI c) := by
  have kr := sd_kfr hE ht hc
  obtain ⟨kd, hkd, ek⟩ := hE.2.1 (2 * t + c) (by omega)
  unfold sd_ok sd_ln at h1
  unfold sd_ok at h0
  refine br_f (nI_ge (b := 2) hc (by decide)) ?_
  rw [sd_2x, sd_2x, nI_clamp (n := 2 * t + c) (by omega), nI_clamp (n := 2 * x + c) (by omega)]
  refine ⟨vp_in_nI (by omega) (by decide), nm_e ⟨vp_in_nI (by omega) (by decide), nm_e ?_⟩⟩
  rcases kr with kr | ⟨f, hf, kr⟩
  · refine br_t kr (nm_r (nI_1 c) ?_)
    have g := h1 (Or.inl kr)
    rw [if_pos kr, Int32.add_zero] at g
    exact g
  · have nk : ¬ kf (2 * t + c) = -1 := by rw [kr]; exact sd_ne (by omega)
    rw [if_neg nk, kr, nI_clamp (n := f) (by omega)] at h1
    rw [kr, nI_clamp (n := f) (by omega)] at h0
    have : kd = 0 ∨ kd = 1 ∨ kd = 2 := by omega
    refine br_f nk ?_
    rw [kr, nI_clamp (n := f) (by omega)]
    rcases this with rfl | rfl | rfl
    · have m0 : sd_ms (kk (2 * t + c)) (fw f) (mm (2 * x + c)) = 65535 := by rw [ek]; rfl
      rw [m0] at h1 h0
      have n1 : ¬ kk (2 * t + c) = 1 := by rw [ek]; decide
      have n2 : ¬ kk (2 * t + c) = 2 := by rw [ek]; decide
      rw [if_neg n1, Int32.add_zero] at h1
      exact br_f n2 (br_f n1 (sx_p141 hx hc hf (fun z => h1 (Or.inr z)) (fun z => h0 (fun y => y.elim (fun y => sd_ne (by omega) y) z))))
    · have m1 : sd_ms (kk (2 * t + c)) (fw f) (mm (2 * x + c)) = (((1 : Int32) <<< (sd_on (fw f) (mm (2 * x + c)) &&& 31)) - 1) <<< ((fw f - sd_on (fw f) (mm (2 * x + c))) &&& 31) := by rw [ek]; rfl
      rw [m1] at h1 h0
      have n1 : kk (2 * t + c) = 1 := ek
      have n2 : ¬ kk (2 * t + c) = 2 := by rw [ek]; decide
      rw [if_pos n1] at h1
      refine br_f n2 (br_t n1 ⟨vp_in_nI (by omega) (by decide), nm_e ⟨vp_in_nI hf (by decide), ?_⟩⟩)
      have tail : ∀ o : Int32, sd_on (fw f) (mm (2 * x + c)) = o → wX_prefixOnesIfFits_115 post (wX_prefixOnesIfFits_5 post (nI t) (nI x) sc oc bt bb da ag lo tp sb sd tk fw fv hv sts ops opn rg kf kk th ens mv mm sps ho pb pz rc mr md mt gp qc qq qe lc tq n) (nI t) (nI x) s (nI c) (nI f) o sc oc bt bb da ag lo tp sb sd tk fw fv hv sts ops opn rg kf kk th ens mv mm sps ho pb pz rc mr md mt gp qc qq qe lc tq := by
        intro o ho
        refine ⟨vp_in_nI hf (by decide), ?_⟩
        rw [nI_clamp (n := f) (by omega)]
        rw [ho] at h1 h0
        exact nm_e (nm_e (sx_p141 hx hc hf (fun z => h1 (Or.inr z)) (fun z => h0 (fun y => y.elim (fun y => sd_ne (by omega) y) z))))
      refine br_c (fun z => tail _ ?_) (fun z => ⟨vp_in_nI hf (by decide), tail _ ?_⟩)
      · unfold sd_on; rw [if_pos z]
      · unfold sd_on; rw [if_neg z]
    · have m2 : sd_ms (kk (2 * t + c)) (fw f) (mm (2 * x + c)) = mm (2 * x + c) := by rw [ek]; rfl
      rw [m2] at h1 h0
      have n1 : ¬ kk (2 * t + c) = 1 := by rw [ek]; decide
      have n2 : kk (2 * t + c) = 2 := ek
      rw [if_neg n1, Int32.add_zero] at h1
      exact br_t n2 ⟨vp_in_nI (by omega) (by decide), nm_e (sx_p141 hx hc hf (fun z => h1 (Or.inr z)) (fun z => h0 (fun y => y.elim (fun y => sd_ne (by omega) y) z)))⟩
theorem sx_pf {post : Int32 → Prop} (hE : sd_E kf kk th ens mm ra ac ea eb ch) {t x : Nat} (ht : t < 4) (hx : x < 52) (h1 : sd_ok kf kk fw fv mv mm t x 0 → sd_ok kf kk fw fv mv mm t x 1 → post (sd_ln kf kk fw mm t x 0 + sd_ln kf kk fw mm t x 1)) (h0 : ¬ (sd_ok kf kk fw fv mv mm t x 0 ∧ sd_ok kf kk fw fv mv mm t x 1) → post (-1)) : wpX_prefixOnesIfFits post (sc, oc, bt, bb, da, ag, lo, tp, sb, sd, tk, fw, fv, hv, sts, ops, opn, rg, kf, kk, th, ens, mv, mm, sps, ho, pb, pz, rc, mr, md, mt, gp, qc, qq, qe, lc, tq) (nI t) (nI x) := by
  refine ⟨3, sx_pf1 (c := 0) hE ht hx (by omega) (fun a => ?_) (fun a => h0 (fun z => a z.1))⟩
  rw [Int32.zero_add]
  exact sx_pf1 (c := 1) hE ht hx (by omega) (fun b => br_t (by decide) (h1 a b)) (fun b => h0 (fun z => b z.2))
/-- Y: ones and the mask -/
theorem sy_ones {post : Int32 → Prop} {j y f : Nat} (hj : j < 8) (hy : y < 104) (hf : f < 28) (hk : kf j = nI f) (h : post (sd_on (fw f) (mm y))) : wpY_ones post (sc, oc, tl, tt, bt, ma, ol, tp, sb, sd, tk, dr, ay, gl, fw, fv, hv, ta, lk, go, ca, cv, cm, cg, opn, ow, oq, ox, rg, sw, sa, sz, sg, ho, kf, kk, ra, ac, ea, eb, ch, th, mv, mm, ty, bi, mk, rc, mr, md, mt, gp, yb, le, qc, qe, qq, tq, lc, gt) (nI j) (nI y) := by
  refine ⟨vp_in_nI hj (by decide), ?_⟩
  rw [nI_clamp (n := j) (by omega), hk, nI_clamp (n := f) (by omega), nI_clamp (n := y) (by omega)]
  rw [sd_onE] at h
  refine ⟨vp_in_nI hf (by decide), nm_e ⟨vp_in_nI hy (by decide), br_c (fun z => ?_) (fun z => ⟨vp_in_nI hy (by decide), ?_⟩)⟩⟩
  · rw [if_pos z] at h; exact h
  · rw [if_neg z] at h; exact h
theorem sy_mask {post : Int32 → Prop} {j y f : Nat} (hj : j < 8) (hy : y < 104) (hf : f < 28) (hk : kf j = nI f) (hkk : sd_rg 3 (kk j)) (h : post (sd_ms (kk j) (fw f) (mm y))) : wpY_maskOf post (sc, oc, tl, tt, bt, ma, ol, tp, sb, sd, tk, dr, ay, gl, fw, fv, hv, ta, lk, go, ca, cv, cm, cg, opn, ow, oq, ox, rg, sw, sa, sz, sg, ho, kf, kk, ra, ac, ea, eb, ch, th, mv, mm, ty, bi, mk, rc, mr, md, mt, gp, yb, le, qc, qe, qq, tq, lc, gt) (nI j) (nI y) := by
  obtain ⟨kd, hkd, ek⟩ := hkk
  refine ⟨vp_in_nI hj (by decide), ?_⟩
  rw [nI_clamp (n := j) (by omega), nI_clamp (n := y) (by omega), hk, nI_clamp (n := f) (by omega)]
  have : kd = 0 ∨ kd = 1 ∨ kd = 2 := by omega
  rcases this with rfl | rfl | rfl
  · have m0 : sd_ms (kk j) (fw f) (mm y) = 65535 := by rw [ek]; rfl
    rw [m0] at h
    exact br_f (by rw [ek]; decide) ⟨vp_in_nI hj (by decide), br_t (by rw [ek]; rfl) h⟩
  · have m1 : sd_ms (kk j) (fw f) (mm y) = (((1 : Int32) <<< (sd_on (fw f) (mm y) &&& 31)) - 1) <<< ((fw f - sd_on (fw f) (mm y)) &&& 31) := by rw [ek]; rfl
    rw [m1] at h
    exact br_t ek (sy_ones hj hy hf hk ⟨vp_in_nI hj (by decide), vp_in_nI hf (by decide), h⟩)
  · have m2 : sd_ms (kk j) (fw f) (mm y) = mm y := by rw [ek]; rfl
    rw [m2] at h
    exact br_f (by rw [ek]; decide) ⟨vp_in_nI hj (by decide), br_f (by rw [ek]; decide) ⟨vp_in_nI hy (by decide), h⟩⟩
theorem sy_fit1 {post : Int32 → Prop} (hE : sd_E kf kk th ens mm ra ac ea eb ch) {t x c n : Nat} (ht : t < 4) (hx : x < 52) (hc : c < 2)
    (h1 : sd_ok kf kk fw fv mv mm t x c → wY_fits_2 post (nI t) (nI x) sc oc tl tt bt ma ol tp sb sd tk dr ay gl fw fv hv ta lk go ca cv cm cg opn ow oq ox rg sw sa sz sg ho kf kk ra ac ea eb ch th mv mm ty bi mk rc mr md mt gp yb le qc qe qq tq lc gt n (nI (c + 1))) (h0 : ¬ sd_ok kf kk fw fv mv mm t x c → post 0) : wY_fits_2 post (nI t) (nI x) sc oc tl tt bt ma ol tp sb sd tk dr ay gl fw fv hv ta lk go ca cv cm cg opn ow oq ox rg sw sa sz sg ho kf kk ra ac ea eb ch th mv mm ty bi mk rc mr md mt gp yb le qc qe qq tq lc gt (n + 1) (nI c) := by
  have kr := sd_kfr hE ht hc
  unfold sd_ok at h1 h0
  refine br_f (nI_ge (b := 2) hc (by decide)) ?_
  rw [sd_2y, sd_2y, nI_clamp (n := 2 * t + c) (by omega)]
  refine ⟨vp_in_nI (by omega) (by decide), nm_e ?_⟩
  rcases kr with kr | ⟨f, hf, kr⟩
  · exact br_f (by rw [kr]; decide) (br_t (by rw [kr]; decide) (nm_r (nI_1 c) (h1 (Or.inl kr))))
  · rw [kr, nI_clamp (n := f) (by omega)] at h1 h0
    refine br_t (by rw [kr]; exact nI_pos' (by omega)) (sy_mask (by omega) (by omega) hf kr (hE.2.1 _ (by omega)) (br_f (by rw [kr]; exact nI_pos (by omega)) ?_))
    rw [kr, sd_2y, nI_clamp (n := f) (by omega), nI_clamp (n := 2 * x + c) (by omega)]
    exact ⟨vp_in_nI hf (by decide), vp_in_nI (by omega) (by decide), br_c (fun z => nm_r (nI_1 c) (h1 (Or.inr z))) (fun z => h0 (fun y => y.elim (fun y => sd_ne (by omega) y) z))⟩
theorem sy_fit {post : Int32 → Prop} (hE : sd_E kf kk th ens mm ra ac ea eb ch) {t x : Nat} (ht : t < 4) (hx : x < 52) (h1 : sd_ok kf kk fw fv mv mm t x 0 → sd_ok kf kk fw fv mv mm t x 1 → post 1) (h0 : ¬ (sd_ok kf kk fw fv mv mm t x 0 ∧ sd_ok kf kk fw fv mv mm t x 1) → post 0) : wpY_fits post (sc, oc, tl, tt, bt, ma, ol, tp, sb, sd, tk, dr, ay, gl, fw, fv, hv, ta, lk, go, ca, cv, cm, cg, opn, ow, oq, ox, rg, sw, sa, sz, sg, ho, kf, kk, ra, ac, ea, eb, ch, th, mv, mm, ty, bi, mk, rc, mr, md, mt, gp, yb, le, qc, qe, qq, tq, lc, gt) (nI t) (nI x) :=
  ⟨3, sy_fit1 (c := 0) hE ht hx (by omega) (fun a => sy_fit1 (c := 1) hE ht hx (by omega) (fun b => br_t (by decide) (h1 a b)) (fun b => h0 (fun z => b z.2))) (fun a => h0 (fun z => a z.1))⟩
theorem sy_len1 {post : Int32 → Prop} (hE : sd_E kf kk th ens mm ra ac ea eb ch) {t x c n : Nat} {s : Int32} (ht : t < 4) (hx : x < 52) (hc : c < 2)
    (h1 : wY_length_5 post (nI t) (nI x) sc oc tl tt bt ma ol tp sb sd tk dr ay gl fw fv hv ta lk go ca cv cm cg opn ow oq ox rg sw sa sz sg ho kf kk ra ac ea eb ch th mv mm ty bi mk rc mr md mt gp yb le qc qe qq tq lc gt n (s + sd_ln kf kk fw mm t x c) (nI (c + 1))) : wY_length_5 post (nI t) (nI x) sc oc tl tt bt ma ol tp sb sd tk dr ay gl fw fv hv ta lk go ca cv cm cg opn ow oq ox rg sw sa sz sg ho kf kk ra ac ea eb ch th mv mm ty bi mk rc mr md mt gp yb le qc qe qq tq lc gt (n + 1) s (nI c) := by
  have kr := sd_kfr hE ht hc
  unfold sd_ln at h1
  refine br_f (nI_ge (b := 2) hc (by decide)) ?_
  rw [sd_2y, sd_2y, nI_clamp (n := 2 * t + c) (by omega)]
  refine ⟨vp_in_nI (by omega) (by decide), ?_⟩
  rcases kr with kr | ⟨f, hf, kr⟩
  · rw [if_pos kr, Int32.add_zero] at h1
    exact br_t (by rw [kr]; decide) (nm_r (nI_1 c) h1)
  · have nk : ¬ kf (2 * t + c) = -1 := by rw [kr]; exact sd_ne (by omega)
    rw [if_neg nk] at h1
    refine br_f (by rw [kr]; exact nI_pos (by omega)) ⟨vp_in_nI (by omega) (by decide), br_c (fun z => ?_) (fun z => ?_)⟩
    · rw [if_pos z, kr, nI_clamp (n := f) (by omega)] at h1
      exact sy_ones (by omega) (by omega) hf kr (nm_e (nm_r (nI_1 c) h1))
    · rw [if_neg z, Int32.add_zero] at h1
      exact nm_r (nI_1 c) h1
theorem sy_len {post : Int32 → Prop} (hE : sd_E kf kk th ens mm ra ac ea eb ch) {t x : Nat} (ht : t < 4) (hx : x < 52) (h1 : post (sd_ln kf kk fw mm t x 0 + sd_ln kf kk fw mm t x 1)) : wpY_length post (sc, oc, tl, tt, bt, ma, ol, tp, sb, sd, tk, dr, ay, gl, fw, fv, hv, ta, lk, go, ca, cv, cm, cg, opn, ow, oq, ox, rg, sw, sa, sz, sg, ho, kf, kk, ra, ac, ea, eb, ch, th, mv, mm, ty, bi, mk, rc, mr, md, mt, gp, yb, le, qc, qe, qq, tq, lc, gt) (nI t) (nI x) := by
  refine ⟨3, sy_len1 (c := 0) hE ht hx (by omega) ?_⟩
  rw [Int32.zero_add]
  exact sy_len1 (c := 1) hE ht hx (by omega) (br_t (by decide) h1)
/-- the length of an entry that is there is a small number -/
theorem sd_lnr (hE : sd_E kf kk th ens mm ra ac ea eb ch) (hF : sd_F fw fv hv) {t e c : Nat} (ht : t < 4) (he : e < 12) (hth : ¬ th (13 * t + e) = 0) (hc : c < 2) : ∃ l : Nat, l ≤ 16 ∧ sd_ln kf kk fw mm t (13 * t + e) c = nI l := by
  unfold sd_ln
  rcases sd_kfr hE ht hc with kr | ⟨f, hf, kr⟩
  · rw [if_pos kr]; exact ⟨0, by omega, rfl⟩
  · have nk : ¬ kf (2 * t + c) = -1 := by rw [kr]; exact sd_ne (by omega)
    rw [if_neg nk]
    by_cases z : kk (2 * t + c) = 1
    · rw [if_pos z, kr, nI_clamp (by omega)]
      obtain ⟨m, hm, em⟩ := hE.2.2.2 t ht e he hth c hc z
      obtain ⟨w, w1, w2, w3⟩ := sd_wi hF hf
      rw [em, w2]
      unfold sd_on
      by_cases y : nI m ≤ nI w
      · rw [if_pos y]; exact ⟨m, by omega, rfl⟩
      · rw [if_neg y]; exact ⟨w, by omega, rfl⟩
    · rw [if_neg z]; exact ⟨0, by omega, rfl⟩
end
