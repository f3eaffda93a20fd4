section
variable {sc oc bt bb da ag lo tp sb sd tk : Int32} {fw fv hv sts ops opn rg kf kk th ens mv mm sps ho pb pz rc mr md mt gp qc qq qe lc tq : Nat → Int32} {tl tt ma ol dr ay gl : Int32} {ta lk go ca cv cm cg ow oq ox sw sa sz sg ra ac ea eb ch ty bi mk yb le gt : Nat → Int32}
theorem sy_i475 {post : SY → Prop} (h : post (sc, oc, tl, tt, bt, ma, ol, tp, sb, sd, tk, dr, ay, gl, fw, fv, hv, ta, lk, go, ca, cv, cm, cg, opn, ow, oq, ox, rg, sw, sa, sz, sg, ho, kf, kk, ra, ac, ea, eb, ch, th, mv, mm, ty, bi, mk, rc, mr, md, mt, gp, yb, le, qc, qe, (sd_fl 0 12 16), tq, lc, gt)) : ∃ n, wY_init_475 post sc oc tl tt bt ma ol tp sb sd tk dr ay gl n 0 fw fv hv ta lk go ca cv cm cg opn ow oq ox rg sw sa sz sg ho kf kk ra ac ea eb ch th mv mm ty bi mk rc mr md mt gp yb le qc qe (sd_fl 0 0 16) tq lc gt :=
  sd_lp (fun n i s => wY_init_475 post sc oc tl tt bt ma ol tp sb sd tk dr ay gl n (nI i) fw fv hv ta lk go ca cv cm cg opn ow oq ox rg sw sa sz sg ho kf kk ra ac ea eb ch th mv mm ty bi mk rc mr md mt gp yb le qc qe s tq lc gt) (fun i => sd_fl 0 i 16) 12 0 (by omega) (fun n => br_t (nI_le (a := 12) (b := 12) (Nat.le_refl _) (by decide)) h)
    (fun n i h0 h1 ih => br_f (nI_ge (b := 12) h1 (by decide)) (sd_st i rfl h1 (by decide) (nm_r (nI_1 i) (by rw [sd_fls h0]; exact ih))))
theorem sy_i434 {post : SY → Prop} (h : post (sc, oc, tl, tt, bt, ma, ol, tp, sb, sd, tk, dr, ay, gl, fw, fv, hv, ta, lk, go, ca, cv, cm, cg, opn, ow, oq, ox, rg, sw, sa, sz, sg, ho, (sd_kf 4), kk, ra, ac, ea, eb, ch, th, mv, mm, ty, bi, mk, rc, mr, md, mt, gp, yb, le, qc, qe, (sd_fl 0 12 16), (sd_fl 0 4 2), lc, gt)) : ∃ n, wY_init_434 post sc oc tl tt bt ma ol tp sb sd tk dr ay gl n 0 fw fv hv ta lk go ca cv cm cg opn ow oq ox rg sw sa sz sg ho (sd_kf 0) kk ra ac ea eb ch th mv mm ty bi mk rc mr md mt gp yb le qc qe (sd_fl 0 0 16) (sd_fl 0 0 2) lc gt :=
  sd_lp (fun n i (s : (Nat → Int32) × (Nat → Int32)) => wY_init_434 post sc oc tl tt bt ma ol tp sb sd tk dr ay gl n (nI i) fw fv hv ta lk go ca cv cm cg opn ow oq ox rg sw sa sz sg ho s.1 kk ra ac ea eb ch th mv mm ty bi mk rc mr md mt gp yb le qc qe (sd_fl 0 0 16) s.2 lc gt) (fun i => (sd_kf i, sd_fl 0 i 2)) 4 0 (by omega) (fun n => br_t (nI_le (a := 4) (b := 4) (Nat.le_refl _) (by decide)) (sy_i475 h))
    (fun n i h0 h1 ih => br_f (nI_ge (b := 4) h1 (by decide)) (sd_st (2 * i) (pk_mul 2 i) (by omega) (by decide) (sd_st (2 * i + 1) (sd_am i 2 1) (by omega) (by decide) (sd_st i rfl h1 (by decide) (nm_r (nI_1 i) (by rw [sd_kfs, sd_fls h0]; exact ih))))))
theorem sy_i398 {post : SY → Prop} (h : post (sc, oc, tl, tt, bt, ma, ol, tp, sb, sd, tk, dr, ay, gl, fw, fv, hv, (sd_fl 0 8 (-1)), (sd_fl 0 8 (-1)), (sd_fl 0 8 8), ca, cv, cm, cg, opn, ow, oq, ox, rg, sw, sa, sz, sg, ho, (sd_kf 4), kk, ra, ac, ea, eb, ch, th, mv, mm, ty, bi, mk, rc, mr, md, mt, gp, yb, le, qc, qe, (sd_fl 0 12 16), (sd_fl 0 4 2), lc, gt)) : ∃ n, wY_init_398 post sc oc tl tt bt ma ol tp sb sd tk dr ay gl n 0 fw fv hv (sd_fl 0 0 (-1)) (sd_fl 0 0 (-1)) (sd_fl 0 0 8) ca cv cm cg opn ow oq ox rg sw sa sz sg ho (sd_kf 0) kk ra ac ea eb ch th mv mm ty bi mk rc mr md mt gp yb le qc qe (sd_fl 0 0 16) (sd_fl 0 0 2) lc gt :=
  sd_lp (fun n i (s : (Nat → Int32) × (Nat → Int32) × (Nat → Int32)) => wY_init_398 post sc oc tl tt bt ma ol tp sb sd tk dr ay gl n (nI i) fw fv hv s.1 s.2.1 s.2.2 ca cv cm cg opn ow oq ox rg sw sa sz sg ho (sd_kf 0) kk ra ac ea eb ch th mv mm ty bi mk rc mr md mt gp yb le qc qe (sd_fl 0 0 16) (sd_fl 0 0 2) lc gt) (fun i => (sd_fl 0 i (-1), sd_fl 0 i (-1), sd_fl 0 i 8)) 8 0 (by omega) (fun n => br_t (nI_le (a := 8) (b := 8) (Nat.le_refl _) (by decide)) (sy_i434 h))
    (fun n i h0 h1 ih => br_f (nI_ge (b := 8) h1 (by decide)) (sd_st i rfl h1 (by decide) (sd_st i rfl h1 (by decide) (sd_st i rfl h1 (by decide) (nm_r (nI_1 i) (by rw [sd_fls h0, sd_fls h0]; exact ih))))))
theorem sy_i376 {post : SY → Prop} (h : post (sc, oc, tl, tt, bt, ma, ol, tp, sb, sd, tk, dr, ay, gl, (sd_fl 24 28 16), fv, hv, (sd_fl 0 8 (-1)), (sd_fl 0 8 (-1)), (sd_fl 0 8 8), ca, cv, cm, cg, opn, ow, oq, ox, rg, sw, sa, sz, sg, ho, (sd_kf 4), kk, ra, ac, ea, eb, ch, th, mv, mm, ty, bi, mk, rc, mr, md, mt, gp, yb, le, qc, qe, (sd_fl 0 12 16), (sd_fl 0 4 2), lc, gt)) : ∃ n, wY_init_376 post sc oc tl tt bt ma ol tp sb sd tk dr ay gl n 24 (sd_fl 24 24 16) fv hv (sd_fl 0 0 (-1)) (sd_fl 0 0 (-1)) (sd_fl 0 0 8) ca cv cm cg opn ow oq ox rg sw sa sz sg ho (sd_kf 0) kk ra ac ea eb ch th mv mm ty bi mk rc mr md mt gp yb le qc qe (sd_fl 0 0 16) (sd_fl 0 0 2) lc gt :=
  sd_lp (fun n i s => wY_init_376 post sc oc tl tt bt ma ol tp sb sd tk dr ay gl n (nI i) s fv hv (sd_fl 0 0 (-1)) (sd_fl 0 0 (-1)) (sd_fl 0 0 8) ca cv cm cg opn ow oq ox rg sw sa sz sg ho (sd_kf 0) kk ra ac ea eb ch th mv mm ty bi mk rc mr md mt gp yb le qc qe (sd_fl 0 0 16) (sd_fl 0 0 2) lc gt) (fun i => sd_fl 24 i 16) 28 24 (by omega) (fun n => br_t (nI_le (a := 28) (b := 28) (Nat.le_refl _) (by decide)) (sy_i398 h))
    (fun n i h0 h1 ih => br_f (nI_ge (b := 28) h1 (by decide)) (sd_st i rfl h1 (by decide) (nm_r (nI_1 i) (by rw [sd_fls h0]; exact ih))))
def sd_z : Nat → Int32 := fun _ => 0
theorem sx_init {post : SX → Prop} (h : post (0, 0, 0, 0, 0, 0, 0, 0, 0, 0, 0, (sd_fl 24 28 16), sd_z, sd_z, (sd_ss 8), sd_z, sd_z, sd_z, (sd_kf 4), sd_z, sd_z, sd_z, sd_z, sd_z, sd_z, sd_z, sd_z, sd_z, sd_z, sd_z, sd_z, sd_z, sd_z, sd_z, (sd_fl 0 12 16), sd_z, sd_z, (sd_fl 0 4 2))) : wpX_init post := by
  have g := sx_i273 (post := post) h
  rw [sd_fl0, sd_fl0, sd_fl0, sd_kf0, sd_ss0] at g
  exact g
theorem sy_init {post : SY → Prop} (h : post (0, 0, 0, 0, 0, 0, (-1), 0, 0, 0, 0, 0, 0, 0, (sd_fl 24 28 16), sd_z, sd_z, (sd_fl 0 8 (-1)), (sd_fl 0 8 (-1)), (sd_fl 0 8 8), sd_z, sd_z, sd_z, sd_z, sd_z, sd_z, sd_z, sd_z, sd_z, sd_z, sd_z, sd_z, sd_z, sd_z, (sd_kf 4), sd_z, sd_z, sd_z, sd_z, sd_z, sd_z, sd_z, sd_z, sd_z, sd_z, sd_z, sd_z, sd_z, sd_z, sd_z, sd_z, sd_z, sd_z, sd_z, sd_z, sd_z, (sd_fl 0 12 16), (sd_fl 0 4 2), sd_z, sd_z)) : wpY_init post := by
  have g := sy_i376 (post := post) h
  rw [sd_fl0, sd_fl0, sd_fl0, sd_fl0, sd_fl0, sd_kf0] at g
  exact g
theorem sd_flp {lo i j : Nat} {c : Int32} (h : lo ≤ j ∧ j < i) : sd_fl lo i c j = c := if_pos h
theorem sd_fln {lo i j : Nat} {c : Int32} (h : ¬ (lo ≤ j ∧ j < i)) : sd_fl lo i c j = 0 := if_neg h
theorem sd_r0 {n : Nat} (h : 0 < n) : sd_rg n 0 := ⟨0, h, rfl⟩
theorem sd_iF : sd_F (sd_fl 24 28 16) sd_z sd_z := by
  refine ⟨fun f hf => ?_, fun f h0 h1 => sd_flp ⟨h0, h1⟩, fun h _ => Or.inl rfl⟩
  by_cases h : 24 ≤ f
  · exact ⟨16, 0, by omega, by omega, sd_flp ⟨h, hf⟩, rfl⟩
  · exact ⟨0, 0, by omega, by omega, sd_fln (by omega), rfl⟩
theorem sd_m13 (s r : Nat) (h : r < 13) : (s * 13 + r) % 13 = r := by omega
theorem sd_iS : sd_S (sd_ss 8) (sd_fl 0 8 (-1)) (sd_fl 0 8 (-1)) (sd_fl 0 8 8) sd_z sd_z sd_z sd_z := by
  intro s hs
  have e0 : sd_fl 0 8 (-1) s = -1 := sd_flp ⟨by omega, hs⟩
  have e8 : sd_fl 0 8 8 s = 8 := sd_flp ⟨by omega, hs⟩
  refine ⟨⟨?_, ?_, ?_, ?_⟩, Or.inl e0, Or.inl e0, ⟨8, by omega, e8⟩, sd_r0 (by omega), fun c hc => ⟨?_, ?_, ?_, sd_r0 (by omega)⟩⟩
  · rw [e0]; show (if _ then _ else _) = _; rw [if_pos (by omega), if_pos (by omega)]
  · rw [e0]; show (if _ then _ else _) = _; rw [if_pos (by omega), if_pos (by omega)]
  · rw [e8]; show (if _ then _ else _) = _; rw [if_pos (by omega), if_neg (by omega), if_pos (by omega)]
  · show (if _ then _ else _) = _; rw [if_pos (by omega), if_neg (by omega), if_neg (by omega)]; rfl
  · have m : (s * 13 + 4 + c * 3) % 13 = 4 + c * 3 := by
      have m2 := sd_m13 s (4 + c * 3) (by omega)
      rw [← m2]; congr 1; omega
    show (if _ then _ else _) = _; rw [if_pos (by omega), if_neg (by omega), if_neg (by omega)]; rfl
  · have m : (s * 13 + 4 + c * 3 + 1) % 13 = 4 + c * 3 + 1 := by
      have m2 := sd_m13 s (4 + c * 3 + 1) (by omega)
      rw [← m2]; congr 1; omega
    show (if _ then _ else _) = _; rw [if_pos (by omega), if_neg (by omega), if_neg (by omega)]; rfl
  · have m : (s * 13 + 4 + c * 3 + 2) % 13 = 4 + c * 3 + 2 := by
      have m2 := sd_m13 s (4 + c * 3 + 2) (by omega)
      rw [← m2]; congr 1; omega
    show (if _ then _ else _) = _; rw [if_pos (by omega), if_neg (by omega), if_neg (by omega)]; rfl
theorem sd_iO : sd_O sd_z sd_z sd_z sd_z sd_z := by
  refine ⟨fun a _ => sd_r0 (by omega), fun k _ => ⟨rfl, rfl, rfl, 0, by omega, rfl, fun _ => sd_r0 (by omega), fun _ => by omega, fun _ => by omega, fun _ => by omega, fun _ => by omega, fun _ => by omega⟩⟩
theorem sd_iE : sd_E (sd_kf 4) sd_z sd_z sd_z sd_z sd_z sd_z sd_z sd_z sd_z := by
  refine ⟨fun t ht => ⟨⟨24, by omega, ?_⟩, Or.inl ?_⟩, fun i _ => sd_r0 (by omega), fun x _ => ⟨⟨rfl, rfl, rfl, rfl, rfl⟩, sd_r0 (by omega), sd_r0 (by omega)⟩, fun t _ e _ h => absurd rfl h⟩
  · show (if _ then _ else _) = _; rw [if_pos (by omega), if_pos (by omega)]; rfl
  · show (if _ then _ else _) = _; rw [if_pos (by omega), if_neg (by omega)]
theorem sd_iQ : sd_Q (sd_fl 0 12 16) sd_z (sd_fl 0 4 2) :=
  ⟨fun p hp => ⟨2, by omega, sd_flp ⟨by omega, hp⟩⟩, fun q hq => ⟨16, by omega, by omega, sd_flp ⟨by omega, hq⟩⟩, fun p _ c _ => ⟨0, by omega, rfl, Or.inr (by omega)⟩⟩
theorem i_vc0 : wpX_init (fun u => wpY_init (fun v => i_Rel 0 u v)) :=
  sx_init (sy_init (sd_mk sd_iF sd_iS sd_iO sd_iE ⟨0, by omega, rfl, fun i _ => ⟨rfl, rfl, rfl, rfl⟩, fun i h => absurd h (by omega)⟩ ⟨0, by omega, rfl, fun i _ => sd_r0 (by omega)⟩
    ⟨⟨0, by omega, rfl, rfl⟩, fun j _ => rfl⟩ (Or.inl ⟨rfl, rfl⟩) ⟨0, by omega, rfl, rfl, fun j h => absurd h (by omega)⟩ (fun q _ => ⟨0, by omega, rfl, fun i h => absurd h (by omega)⟩) sd_iQ))
end
