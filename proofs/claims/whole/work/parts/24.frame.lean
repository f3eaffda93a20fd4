section
variable {sc oc bt bb da ag lo tp sb sd tk : Int32} {fw fv hv sts ops opn rg kf kk th ens mv mm sps ho pb pz rc mr md mt gp qc qq qe lc tq : Nat → Int32} {tl tt ma ol dr ay gl : Int32} {ta lk go ca cv cm cg ow oq ox sw sa sz sg ra ac ea eb ch ty bi mk yb le gt : Nat → Int32}
def sd_z24 (fv : Nat → Int32) : Nat → (Nat → Int32)
  | 0 => fv
  | i + 1 => upd (sd_z24 fv i) (24 + i) 0
def sd_y24 (fv : Nat → Int32) (p : Int32) : Nat → (Nat → Int32)
  | 0 => fv
  | i + 1 => upd (sd_y24 fv p i) (24 + i) (if i = 0 then p else 0)
theorem sd_zy {p : Int32} : upd (sd_z24 fv 4) 24 p = sd_y24 fv p 4 := by
  funext j
  show (if j = 24 then p else if j = 27 then 0 else if j = 26 then 0 else if j = 25 then 0 else if j = 24 then 0 else fv j) = (if j = 27 then 0 else if j = 26 then 0 else if j = 25 then 0 else if j = 24 then p else fv j)
  by_cases e : j = 24
  · subst e; rfl
  · rw [if_neg e, if_neg e, if_neg e]
theorem sd_Fy (hF : sd_F fw fv hv) {w : Nat} (hw : w < 65536) : ∀ i, i ≤ 4 → sd_F fw (sd_y24 fv (nI w) i) hv
  | 0, _ => hF
  | i + 1, hi => by
    have e16 : fw (24 + i) = nI 16 := hF.2.1 (24 + i) (by omega) (by omega)
    by_cases z : i = 0
    · subst z
      exact sd_Fu hF e16 (by omega) hw rfl
    · refine sd_Fu (v := 0) (sd_Fy hF hw i (by omega)) e16 (by omega) (by decide) ?_
      rw [if_neg z]; rfl
def sd_tB (ty bi : Nat → Int32) : Nat → (Nat → Int32)
  | 0 => bi
  | i + 1 => upd (sd_tB ty bi i) i (sd_bv (ty (i / 8)) (i % 8))
theorem sd_tBi : ∀ i j, j < i → sd_tB ty bi i j = sd_bv (ty (j / 8)) (j % 8)
  | 0, j, h => absurd h (by omega)
  | i + 1, j, h => by
    show upd (sd_tB ty bi i) i _ j = _
    by_cases e : j = i
    · subst e; rw [pk_us]
    · rw [pk_un e]; exact sd_tBi i j (by omega)
theorem sx_s12 {post : Int32 → SX → Prop} {w : Nat} (h : ∀ n, wX_send_12 post (nI w) sc oc bt bb da ag lo tp sb sd tk (n + 1) 28 fw (sd_z24 fv 4) hv sts ops opn rg kf kk th ens mv mm sps ho pb pz rc mr md mt gp qc qq qe lc tq) : ∃ n, wX_send_12 post (nI w) sc oc bt bb da ag lo tp sb sd tk n 24 fw fv hv sts ops opn rg kf kk th ens mv mm sps ho pb pz rc mr md mt gp qc qq qe lc tq :=
  sd_lp (fun n i s => wX_send_12 post (nI w) sc oc bt bb da ag lo tp sb sd tk n (nI (24 + i)) fw s hv sts ops opn rg kf kk th ens mv mm sps ho pb pz rc mr md mt gp qc qq qe lc tq) (fun i => sd_z24 fv i) 4 0 (by omega) (fun n => h n)
    (fun n i _ hi ih => br_f (nI_ge (b := 28) (by omega) (by decide)) (sd_st (24 + i) rfl (by omega) (by decide) (nm_r (nI_1 _) ih)))
theorem sy_pre {post : Int32 → SY → Prop} {T w : Nat} (hT : T ≤ 16) (hw : w < 65536) (h : ∃ n, wY_send_119 post n 3 sc oc (nI T) (nI (8 * T)) bt ma ol 0 0 0 tk dr ay gl fw (sd_y24 fv (nI w) 4) hv ta lk go ca cv cm cg opn ow oq ox rg sw sa sz sg ho kf kk ra ac ea eb ch th mv mm ty (sd_tB ty bi (8 * T)) mk rc mr md mt gp yb le qc qe qq tq lc gt) : wpY_send post (sc, oc, (nI T), tt, bt, ma, ol, tp, sb, sd, tk, dr, ay, gl, fw, fv, hv, ta, lk, go, ca, cv, cm, cg, opn, ow, oq, ox, rg, sw, sa, sz, sg, ho, kf, kk, ra, ac, ea, eb, ch, th, mv, mm, ty, bi, mk, rc, mr, md, mt, gp, yb, le, qc, qe, qq, tq, lc, gt) (nI w) := by
  unfold wpY_send
  refine sy_word1 ⟨w, hw, rfl⟩ (sd_w1 (nm_r (pk_mul 8 T) ?_))
  refine sd_lp (fun n i s => wY_send_22 post (nI w) sc oc (nI T) (nI (8 * T)) bt ma ol tp sb sd tk dr ay gl n (nI i) fw fv hv ta lk go ca cv cm cg opn ow oq ox rg sw sa sz sg ho kf kk ra ac ea eb ch th mv mm ty s mk rc mr md mt gp yb le qc qe qq tq lc gt) (fun i => sd_tB ty bi i) (8 * T) 0 (by omega) (fun n => br_t (nI_le (Nat.le_refl _) (by omega)) ?_) (fun n i _ hi ih => br_f (nI_ge hi (by omega)) ⟨by decide, ?_⟩)
  · refine sd_lp (fun n i s => wY_send_73 post (nI w) sc oc (nI T) (nI (8 * T)) bt ma ol tp sb sd tk dr ay gl n (nI (24 + i)) fw s hv ta lk go ca cv cm cg opn ow oq ox rg sw sa sz sg ho kf kk ra ac ea eb ch th mv mm ty (sd_tB ty bi (8 * T)) mk rc mr md mt gp yb le qc qe qq tq lc gt) (fun i => sd_y24 fv (nI w) i) 4 0 (by omega) (fun n => br_t (by decide) h) (fun n i _ hi ih => br_f (nI_ge (b := 28) (by omega) (by decide)) ?_)
    have ih' : wY_send_73 post (nI w) sc oc (nI T) (nI (8 * T)) bt ma ol tp sb sd tk dr ay gl n (nI (24 + (i + 1))) fw (upd (sd_y24 fv (nI w) i) (24 + i) (if i = 0 then nI w else 0)) hv ta lk go ca cv cm cg opn ow oq ox rg sw sa sz sg ho kf kk ra ac ea eb ch th mv mm ty (sd_tB ty bi (8 * T)) mk rc mr md mt gp yb le qc qe qq tq lc gt := ih
    refine pk_eq (24 + i) 24 (fun z => sd_st (24 + i) rfl (by omega) (by decide) (nm_r (nI_1 _) ?_)) (fun z => sd_st (24 + i) rfl (by omega) (by decide) (nm_r (nI_1 _) ?_))
    · rw [if_pos (by omega)] at ih'; exact ih'
    · rw [if_neg (by omega)] at ih'; exact ih'
  · have e2 : nI i - nI i / 8 * 8 = nI (i % 8) := pk_rem (d := 8) (by omega) (by decide) (by decide)
    have e1 : nI i / 8 = nI (i / 8) := pk_div (d := 8) (by omega) (by decide) (by decide)
    have e3 : 7 - nI (i % 8) = nI (7 - i % 8) := pk_sub (a := 7) (by omega)
    rw [e2, e1, e3, nI_clamp (n := i / 8) (by omega), sd_b0, sd_b1]
    refine ⟨vp_in_nI (by omega) (by decide), by decide, br_c (fun z => sd_st i rfl (by omega) (by decide) (nm_r (nI_1 _) ?_)) (fun z => sd_st i rfl (by omega) (by decide) (nm_r (nI_1 _) ?_))⟩
    · have z' : sd_bv (ty (i / 8)) (i % 8) = 1 := z
      have ih' : wY_send_22 post (nI w) sc oc (nI T) (nI (8 * T)) bt ma ol tp sb sd tk dr ay gl n (nI (i + 1)) fw fv hv ta lk go ca cv cm cg opn ow oq ox rg sw sa sz sg ho kf kk ra ac ea eb ch th mv mm ty (upd (sd_tB ty bi i) i (sd_bv (ty (i / 8)) (i % 8))) mk rc mr md mt gp yb le qc qe qq tq lc gt := ih
      rw [z'] at ih'
      exact ih'
    · have z' : sd_bv (ty (i / 8)) (i % 8) = 0 := (sd_bv01 _ _).resolve_right z
      have ih' : wY_send_22 post (nI w) sc oc (nI T) (nI (8 * T)) bt ma ol tp sb sd tk dr ay gl n (nI (i + 1)) fw fv hv ta lk go ca cv cm cg opn ow oq ox rg sw sa sz sg ho kf kk ra ac ea eb ch th mv mm ty (upd (sd_tB ty bi i) i (sd_bv (ty (i / 8)) (i % 8))) mk rc mr md mt gp yb le qc qe qq tq lc gt := ih
      rw [z'] at ih'
      exact ih'
end
