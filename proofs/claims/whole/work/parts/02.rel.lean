/-- widths, values, validity -/
def sd_F (fw fv hv : Nat → Int32) : Prop :=
  (∀ f, f < 28 → ∃ a b : Nat, a ≤ 16 ∧ b < 2 ^ a ∧ fw f = nI a ∧ fv f = nI b) ∧ (∀ f, 24 ≤ f → f < 28 → fw f = 16) ∧ (∀ h, h < 6 → hv h = 0 ∨ hv h = 1)
/-- states -/
def sd_S (sts ta lk go ca cv cm cg : Nat → Int32) : Prop :=
  ∀ s, s < 8 → (sts (s * 13 + 0) = ta s ∧ sts (s * 13 + 1) = lk s ∧ sts (s * 13 + 2) = go s ∧ sts (s * 13 + 3) = ca s) ∧
    (ta s = -1 ∨ sd_rg 6 (ta s)) ∧ (lk s = -1 ∨ sd_rg 28 (lk s)) ∧ sd_rg 10 (go s) ∧ sd_rg 4 (ca s) ∧
    (∀ c, c < 3 → sts (s * 13 + 4 + c * 3) = cv (3 * s + c) ∧ sts (s * 13 + 4 + c * 3 + 1) = cm (3 * s + c) ∧ sts (s * 13 + 4 + c * 3 + 2) = cg (3 * s + c) ∧ sd_rg 10 (cg (3 * s + c)))
/-- an operation as promise 5 has it -/
def sd_op (w f x : Int32) : Prop :=
  ∃ n : Nat, n ≤ 14 ∧ w = nI n ∧ ((n < 6 ∨ 9 < n) → sd_rg 28 f) ∧ ((n = 6 ∨ n = 7) → sd_rg 6 f) ∧ ((2 ≤ n ∧ n ≤ 5) → sd_rg 28 x) ∧ (n = 10 → sd_rg 6 x) ∧ ((11 ≤ n ∧ n ≤ 13) → sd_rg 8 x) ∧ (n = 14 → sd_rg 4 x)
/-- actions -/
def sd_O (ops opn ow oq ox : Nat → Int32) : Prop :=
  (∀ a, a < 8 → sd_rg 6 (opn a)) ∧ (∀ k, k < 40 → ops (k * 3) = ow k ∧ ops (k * 3 + 1) = oq k ∧ ops (k * 3 + 2) = ox k ∧ sd_op (ow k) (oq k) (ox k))
/-- tables -/
def sd_E (kf kk th ens mm ra ac ea eb ch : Nat → Int32) : Prop :=
  (∀ t, t < 4 → sd_rg 28 (kf (2 * t)) ∧ (kf (2 * t + 1) = -1 ∨ sd_rg 28 (kf (2 * t + 1)))) ∧ (∀ i, i < 8 → sd_rg 3 (kk i)) ∧
  (∀ x, x < 52 → (ens (x * 5 + 0) = ra x ∧ ens (x * 5 + 1) = ac x ∧ ens (x * 5 + 2) = ea x ∧ ens (x * 5 + 3) = eb x ∧ ens (x * 5 + 4) = ch x) ∧ sd_rg 16 (ra x) ∧ sd_rg 8 (ac x)) ∧
  (∀ t, t < 4 → ∀ e, e < 12 → ¬ th (13 * t + e) = 0 → ∀ c, c < 2 → kk (2 * t + c) = 1 → sd_rg 17 (mm (2 * (13 * t + e) + c)))
/-- a step as promise 10 has it -/
def sd_sp (i : Nat) (w a b g : Int32) : Prop :=
  ∃ n : Nat, n ≤ 5 ∧ w = nI n ∧ (n = 0 → sd_rg 4 a) ∧ (n = 1 → sd_rg 8 a) ∧ ((n = 2 ∨ n = 4) → sd_rg 28 a) ∧ (n = 3 → sd_rg 6 a) ∧ (n = 4 → sd_rg 28 b) ∧ (n ≠ 1 → ∃ j : Nat, i < j ∧ j ≤ 16 ∧ g = nI j)
/-- steps -/
def sd_P (sc : Int32) (sps sw sa sz sg : Nat → Int32) : Prop :=
  ∃ N : Nat, N ≤ 16 ∧ sc = nI N ∧ (∀ i, i < 16 → sps (i * 4) = sw i ∧ sps (i * 4 + 1) = sa i ∧ sps (i * 4 + 2) = sz i ∧ sps (i * 4 + 3) = sg i) ∧ (∀ i, i < N → sd_sp i (sw i) (sa i) (sz i) (sg i))
/-- the order -/
def sd_H (oc : Int32) (ho : Nat → Int32) : Prop := ∃ N : Nat, N ≤ 6 ∧ oc = nI N ∧ ∀ i, i < 6 → sd_rg 6 (ho i)
/-- n bits from b on, read as a number -/
def sd_ac (mk : Nat → Int32) (b : Nat) : Nat → Int32
  | 0 => 0
  | n + 1 => 2 * sd_ac mk b n + (if mk (b + n) = 0 then 0 else 1)
/-- the typed bytes -/
def sd_T (pb pz : Nat → Int32) (tl : Int32) (ty : Nat → Int32) : Prop :=
  (∃ T : Nat, T ≤ 16 ∧ tl = nI T ∧ pz 48 = nI T) ∧ (∀ j, j < 16 → pb (768 + j) = ty j)
/-- the latest packet that came out -/
def sd_U (pb pz : Nat → Int32) (lo ol : Int32) (mk : Nat → Int32) : Prop :=
  (lo = 0 ∧ ol = -1) ∨ (lo = 1 ∧ ∃ L : Nat, L ≤ 16 ∧ ol = nI L ∧ pz 50 = nI L ∧ ∀ k, k < L → pb (800 + k) = sd_ac mk (8 * k) 8)
/-- the packet that was fetched -/
def sd_G (pb pz : Nat → Int32) (gl : Int32) (gt : Nat → Int32) : Prop :=
  ∃ G : Nat, G ≤ 16 ∧ gl = nI G ∧ pz 51 = nI G ∧ ∀ j, j < G → pb (816 + j) = gt j
/-- the queues' packets -/
def sd_W (pb pz qc le yb : Nat → Int32) : Prop :=
  ∀ q, q < 12 → ∃ C : Nat, C ≤ 4 ∧ qc q = nI C ∧ ∀ i, i < C → ∃ L : Nat, L ≤ 16 ∧ le (4 * q + i) = nI L ∧ pz (q * 4 + i) = nI L ∧ ∀ j, j < L → pb ((q * 4 + i) * 16 + j) = yb (16 * (4 * q + i) + j)
/-- turns, quanta, credits -/
def sd_Q (qq qe tq : Nat → Int32) : Prop :=
  (∀ p, p < 4 → sd_rg 3 (tq p)) ∧ (∀ q, q < 12 → ∃ a : Nat, 1 ≤ a ∧ a ≤ 32 ∧ qq q = nI a) ∧ (∀ p, p < 4 → ∀ c, c < 3 → ∃ e : Nat, e ≤ 51 ∧ qe (3 * p + c) = nI e ∧ (tq p = nI c ∨ e ≤ 19))
def i_Rel (k : Nat) (u : SX) (v : SY) : Prop := k = k ∧ ∃ (sc oc bt bb da ag lo tp sb sd tk tl tt ma ol dr ay gl : Int32) (fw fv hv sts ops opn rg kf kk th ens mv mm sps ho pb pz rc mr md mt gp qc qq qe lc tq ta lk go ca cv cm cg ow oq ox sw sa sz sg ra ac ea eb ch ty bi mk yb le gt : Nat → Int32),
  u = (sc, oc, bt, bb, da, ag, lo, tp, sb, sd, tk, fw, fv, hv, sts, ops, opn, rg, kf, kk, th, ens, mv, mm, sps, ho, pb, pz, rc, mr, md, mt, gp, qc, qq, qe, lc, tq) ∧ v = (sc, oc, tl, tt, bt, ma, ol, tp, sb, sd, tk, dr, ay, gl, fw, fv, hv, ta, lk, go, ca, cv, cm, cg, opn, ow, oq, ox, rg, sw, sa, sz, sg, ho, kf, kk, ra, ac, ea, eb, ch, th, mv, mm, ty, bi, mk, rc, mr, md, mt, gp, yb, le, qc, qe, qq, tq, lc, gt) ∧ sd_F fw fv hv ∧ sd_S sts ta lk go ca cv cm cg ∧ sd_O ops opn ow oq ox ∧ sd_E kf kk th ens mm ra ac ea eb ch ∧ sd_P sc sps sw sa sz sg ∧ sd_H oc ho ∧
  sd_T pb pz tl ty ∧ sd_U pb pz lo ol mk ∧ sd_G pb pz gl gt ∧ sd_W pb pz qc le yb ∧ sd_Q qq qe tq
section
variable {sc oc bt bb da ag lo tp sb sd tk : Int32} {fw fv hv sts ops opn rg kf kk th ens mv mm sps ho pb pz rc mr md mt gp qc qq qe lc tq : Nat → Int32} {tl tt ma ol dr ay gl : Int32} {ta lk go ca cv cm cg ow oq ox sw sa sz sg ra ac ea eb ch ty bi mk yb le gt : Nat → Int32}
theorem sd_mk {k : Nat} (hF : sd_F fw fv hv) (hS : sd_S sts ta lk go ca cv cm cg) (hO : sd_O ops opn ow oq ox) (hE : sd_E kf kk th ens mm ra ac ea eb ch) (hP : sd_P sc sps sw sa sz sg) (hH : sd_H oc ho)
    (hT : sd_T pb pz tl ty) (hU : sd_U pb pz lo ol mk) (hG : sd_G pb pz gl gt) (hW : sd_W pb pz qc le yb) (hQ : sd_Q qq qe tq) : i_Rel k (sc, oc, bt, bb, da, ag, lo, tp, sb, sd, tk, fw, fv, hv, sts, ops, opn, rg, kf, kk, th, ens, mv, mm, sps, ho, pb, pz, rc, mr, md, mt, gp, qc, qq, qe, lc, tq) (sc, oc, tl, tt, bt, ma, ol, tp, sb, sd, tk, dr, ay, gl, fw, fv, hv, ta, lk, go, ca, cv, cm, cg, opn, ow, oq, ox, rg, sw, sa, sz, sg, ho, kf, kk, ra, ac, ea, eb, ch, th, mv, mm, ty, bi, mk, rc, mr, md, mt, gp, yb, le, qc, qe, qq, tq, lc, gt) :=
  ⟨rfl, sc, oc, bt, bb, da, ag, lo, tp, sb, sd, tk, tl, tt, ma, ol, dr, ay, gl, fw, fv, hv, sts, ops, opn, rg, kf, kk, th, ens, mv, mm, sps, ho, pb, pz, rc, mr, md, mt, gp, qc, qq, qe, lc, tq, ta, lk, go, ca, cv, cm, cg, ow, oq, ox, sw, sa, sz, sg, ra, ac, ea, eb, ch, ty, bi, mk, yb, le, gt, rfl, rfl, hF, hS, hO, hE, hP, hH, hT, hU, hG, hW, hQ⟩
theorem i_up {k : Nat} {u : SX} {v : SY} (h : i_Rel k u v) : i_Rel (k + 7) u v := ⟨rfl, h.2⟩
theorem sd_lp {σ : Type} (W : Nat → Nat → σ → Prop) (F : Nat → σ) (e i0 : Nat) (hi : i0 ≤ e) (hx : ∀ n, W (n + 1) e (F e)) (hs : ∀ n i, i0 ≤ i → i < e → W n (i + 1) (F (i + 1)) → W (n + 1) i (F i)) : ∃ n, W n i0 (F i0) := by
  have g : ∀ d i, i0 ≤ i → i + d = e → W (d + 1) i (F i) := by
    intro d
    induction d with
    | zero =>
      intro i _ h
      have : i = e := by omega
      subst this
      exact hx 0
    | succ d ih =>
      intro i h0 h
      exact hs (d + 1) i h0 (by omega) (ih (i + 1) (by omega) (by omega))
  exact ⟨_, g (e - i0) i0 (Nat.le_refl _) (by omega)⟩
/-- c from lo up to i, else 0 -/
def sd_fl (lo i : Nat) (c : Int32) : Nat → Int32 := fun j => if lo ≤ j ∧ j < i then c else 0
theorem sd_fl0 (lo : Nat) (c : Int32) : sd_fl lo lo c = fun _ => 0 := by
  funext j
  exact if_neg (by omega)
theorem sd_fls {lo i : Nat} {c : Int32} (h : lo ≤ i) : upd (sd_fl lo i c) i c = sd_fl lo (i + 1) c := by
  funext j
  by_cases e : j = i
  · subst e
    rw [pk_us]
    exact (if_pos (by omega)).symm
  · rw [pk_un e]
    show (if _ then c else 0) = (if _ then c else 0)
    by_cases g : lo ≤ j ∧ j < i
    · rw [if_pos g, if_pos (by omega)]
    · rw [if_neg g, if_neg (by omega)]
def sd_kf (i : Nat) : Nat → Int32 := fun j => if j < 2 * i then (if j % 2 = 0 then 24 else -1) else 0
theorem sd_kfs (i : Nat) : upd (upd (sd_kf i) (2 * i) 24) (2 * i + 1) (-1) = sd_kf (i + 1) := by
  funext j
  by_cases e : j = 2 * i + 1
  · subst e
    rw [pk_us]
    show _ = (if _ then _ else _)
    rw [if_pos (by omega), if_neg (by omega)]
  · rw [pk_un e]
    by_cases e2 : j = 2 * i
    · subst e2
      rw [pk_us]
      show _ = (if _ then _ else _)
      rw [if_pos (by omega), if_pos (by omega)]
    · rw [pk_un e2]
      show (if _ then _ else _) = (if _ then _ else _)
      by_cases g : j < 2 * i
      · rw [if_pos g, if_pos (show j < 2 * (i + 1) by omega)]
      · rw [if_neg g, if_neg (by omega)]
def sd_ss (i : Nat) : Nat → Int32 := fun j => if j < i * 13 then (if j % 13 < 2 then -1 else if j % 13 = 2 then 8 else 0) else 0
theorem sd_sss (i : Nat) : upd (upd (upd (sd_ss i) (i * 13 + 0) (-1)) (i * 13 + 1) (-1)) (i * 13 + 2) 8 = sd_ss (i + 1) := by
  funext j
  by_cases e : j = i * 13 + 2
  · subst e
    rw [pk_us]
    show _ = (if _ then _ else _)
    rw [if_pos (by omega), if_neg (by omega), if_pos (by omega)]
  · rw [pk_un e]
    by_cases e1 : j = i * 13 + 1
    · subst e1
      rw [pk_us]
      show _ = (if _ then _ else _)
      rw [if_pos (by omega), if_pos (by omega)]
    · rw [pk_un e1]
      by_cases e2 : j = i * 13 + 0
      · subst e2
        rw [pk_us]
        show _ = (if _ then _ else _)
        rw [if_pos (by omega), if_pos (by omega)]
      · rw [pk_un e2]
        show (if _ then _ else _) = (if _ then _ else _)
        by_cases g : j < i * 13
        · rw [if_pos g, if_pos (show j < (i + 1) * 13 by omega)]
        · rw [if_neg g]
          by_cases g2 : j < (i + 1) * 13
          · rw [if_pos g2, if_neg (by omega), if_neg (by omega)]
          · rw [if_neg g2]
theorem sx_i402 {post : SX → Prop} (h : post (sc, oc, bt, bb, da, ag, lo, tp, sb, sd, tk, fw, fv, hv, sts, ops, opn, rg, kf, kk, th, ens, mv, mm, sps, ho, pb, pz, rc, mr, md, mt, gp, qc, qq, qe, lc, (sd_fl 0 4 2))) : ∃ n, wX_init_402 post sc oc bt bb da ag lo tp sb sd tk n 0 fw fv hv sts ops opn rg kf kk th ens mv mm sps ho pb pz rc mr md mt gp qc qq qe lc (sd_fl 0 0 2) :=
  sd_lp (fun n i s => wX_init_402 post sc oc bt bb da ag lo tp sb sd tk n (nI i) fw fv hv sts ops opn rg kf kk th ens mv mm sps ho pb pz rc mr md mt gp qc qq qe lc s) (fun i => sd_fl 0 i 2) 4 0 (by omega) (fun n => br_t (nI_le (a := 4) (b := 4) (Nat.le_refl _) (by decide)) h)
    (fun n i h0 h1 ih => br_f (nI_ge (b := 4) h1 (by decide)) (sd_st i rfl h1 (by decide) (nm_r (nI_1 i) (by rw [sd_fls h0]; exact ih))))
theorem sx_i380 {post : SX → Prop} (h : post (sc, oc, bt, bb, da, ag, lo, tp, sb, sd, tk, fw, fv, hv, sts, ops, opn, rg, kf, kk, th, ens, mv, mm, sps, ho, pb, pz, rc, mr, md, mt, gp, qc, (sd_fl 0 12 16), qe, lc, (sd_fl 0 4 2))) : ∃ n, wX_init_380 post sc oc bt bb da ag lo tp sb sd tk n 0 fw fv hv sts ops opn rg kf kk th ens mv mm sps ho pb pz rc mr md mt gp qc (sd_fl 0 0 16) qe lc (sd_fl 0 0 2) :=
  sd_lp (fun n i s => wX_init_380 post sc oc bt bb da ag lo tp sb sd tk n (nI i) fw fv hv sts ops opn rg kf kk th ens mv mm sps ho pb pz rc mr md mt gp qc s qe lc (sd_fl 0 0 2)) (fun i => sd_fl 0 i 16) 12 0 (by omega) (fun n => br_t (nI_le (a := 12) (b := 12) (Nat.le_refl _) (by decide)) (sx_i402 h))
    (fun n i h0 h1 ih => br_f (nI_ge (b := 12) h1 (by decide)) (sd_st i rfl h1 (by decide) (nm_r (nI_1 i) (by rw [sd_fls h0]; exact ih))))
theorem sx_i346 {post : SX → Prop} (h : post (sc, oc, bt, bb, da, ag, lo, tp, sb, sd, tk, fw, fv, hv, sts, ops, opn, rg, (sd_kf 4), kk, th, ens, mv, mm, sps, ho, pb, pz, rc, mr, md, mt, gp, qc, (sd_fl 0 12 16), qe, lc, (sd_fl 0 4 2))) : ∃ n, wX_init_346 post sc oc bt bb da ag lo tp sb sd tk n 0 fw fv hv sts ops opn rg (sd_kf 0) kk th ens mv mm sps ho pb pz rc mr md mt gp qc (sd_fl 0 0 16) qe lc (sd_fl 0 0 2) :=
  sd_lp (fun n i s => wX_init_346 post sc oc bt bb da ag lo tp sb sd tk n (nI i) fw fv hv sts ops opn rg s kk th ens mv mm sps ho pb pz rc mr md mt gp qc (sd_fl 0 0 16) qe lc (sd_fl 0 0 2)) (fun i => sd_kf i) 4 0 (by omega) (fun n => br_t (nI_le (a := 4) (b := 4) (Nat.le_refl _) (by decide)) (sx_i380 h))
    (fun n i h0 h1 ih => br_f (nI_ge (b := 4) h1 (by decide)) (sd_st (2 * i) ((pk_mul i 2).trans (by rw [Nat.mul_comm])) (by omega) (by decide) (sd_st (2 * i + 1) ((sd_ma i 2 1).trans (by rw [Nat.mul_comm])) (by omega) (by decide) (nm_r (nI_1 i) (by rw [sd_kfs]; exact ih)))))
theorem sx_i295 {post : SX → Prop} (h : post (sc, oc, bt, bb, da, ag, lo, tp, sb, sd, tk, fw, fv, hv, (sd_ss 8), ops, opn, rg, (sd_kf 4), kk, th, ens, mv, mm, sps, ho, pb, pz, rc, mr, md, mt, gp, qc, (sd_fl 0 12 16), qe, lc, (sd_fl 0 4 2))) : ∃ n, wX_init_295 post sc oc bt bb da ag lo tp sb sd tk n 0 fw fv hv (sd_ss 0) ops opn rg (sd_kf 0) kk th ens mv mm sps ho pb pz rc mr md mt gp qc (sd_fl 0 0 16) qe lc (sd_fl 0 0 2) :=
  sd_lp (fun n i s => wX_init_295 post sc oc bt bb da ag lo tp sb sd tk n (nI i) fw fv hv s ops opn rg (sd_kf 0) kk th ens mv mm sps ho pb pz rc mr md mt gp qc (sd_fl 0 0 16) qe lc (sd_fl 0 0 2)) (fun i => sd_ss i) 8 0 (by omega) (fun n => br_t (nI_le (a := 8) (b := 8) (Nat.le_refl _) (by decide)) (sx_i346 h))
    (fun n i h0 h1 ih => br_f (nI_ge (b := 8) h1 (by decide)) (sd_st (i * 13 + 0) (sd_ma i 13 0) (by omega) (by decide) (sd_st (i * 13 + 1) (sd_ma i 13 1) (by omega) (by decide) (sd_st (i * 13 + 2) (sd_ma i 13 2) (by omega) (by decide) (nm_r (nI_1 i) (by rw [sd_sss]; exact ih))))))
theorem sx_i273 {post : SX → Prop} (h : post (sc, oc, bt, bb, da, ag, lo, tp, sb, sd, tk, (sd_fl 24 28 16), fv, hv, (sd_ss 8), ops, opn, rg, (sd_kf 4), kk, th, ens, mv, mm, sps, ho, pb, pz, rc, mr, md, mt, gp, qc, (sd_fl 0 12 16), qe, lc, (sd_fl 0 4 2))) : ∃ n, wX_init_273 post sc oc bt bb da ag lo tp sb sd tk n 24 (sd_fl 24 24 16) fv hv (sd_ss 0) ops opn rg (sd_kf 0) kk th ens mv mm sps ho pb pz rc mr md mt gp qc (sd_fl 0 0 16) qe lc (sd_fl 0 0 2) :=
  sd_lp (fun n i s => wX_init_273 post sc oc bt bb da ag lo tp sb sd tk n (nI i) s fv hv (sd_ss 0) ops opn rg (sd_kf 0) kk th ens mv mm sps ho pb pz rc mr md mt gp qc (sd_fl 0 0 16) qe lc (sd_fl 0 0 2)) (fun i => sd_fl 24 i 16) 28 24 (by omega) (fun n => br_t (nI_le (a := 28) (b := 28) (Nat.le_refl _) (by decide)) (sx_i295 h))
    (fun n i h0 h1 ih => br_f (nI_ge (b := 28) h1 (by decide)) (sd_st i rfl h1 (by decide) (nm_r (nI_1 i) (by rw [sd_fls h0]; exact ih))))
theorem sd_kf0 : sd_kf 0 = fun _ => 0 := by
  funext j
  exact if_neg (by omega)
theorem sd_ss0 : sd_ss 0 = fun _ => 0 := by
  funext j
  exact if_neg (by omega)
end
