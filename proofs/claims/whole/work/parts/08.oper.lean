section
variable {sc oc bt bb da ag lo tp sb sd tk : Int32} {fw fv hv sts ops opn rg kf kk th ens mv mm sps ho pb pz rc mr md mt gp qc qq qe lc tq : Nat → Int32} {tl tt ma ol dr ay gl : Int32} {ta lk go ca cv cm cg ow oq ox sw sa sz sg ra ac ea eb ch ty bi mk yb le gt : Nat → Int32}
theorem sd_nj {n : Nat} {p : Int32} (hn : n < 2 ^ 31) (h : sd_rj n p) (g : sd_rg n p) : False := by
  obtain ⟨j, hj, rfl⟩ := g
  exact sd_no hj hn h
def sd_oc (n : Nat) (f x : Int32) : Prop := ((n < 6 ∨ 9 < n) → sd_rg 28 f) ∧ ((n = 6 ∨ n = 7) → sd_rg 6 f) ∧ (n = 0 → sd_rg 65536 x) ∧ (n = 1 → sd_rg 2 x) ∧ ((2 ≤ n ∧ n ≤ 5) → sd_rg 28 x) ∧ (n = 10 → sd_rg 6 x) ∧ ((11 ≤ n ∧ n ≤ 13) → sd_rg 8 x) ∧ (n = 14 → sd_rg 4 x)
theorem sd_2no {p : Int32} (h : sd_rj 2 p) : ¬ p = 0 ∧ ¬ p = 1 := by
  refine ⟨?_, ?_⟩
  · rintro rfl
    exact sd_nj (by decide) h ⟨0, by omega, rfl⟩
  · rintro rfl
    exact sd_nj (by decide) h ⟨1, by omega, rfl⟩
theorem sx_of0 {post : Int32 → Prop} {p1 p2 : Int32} (h0 : ¬ sd_oc 0 p1 p2 → post 0) (h1 : sd_oc 0 p1 p2 → post 1) : wpX_operationFits post (nI 0) p1 p2 := by
  refine sx_BT 14 ⟨0, by omega, rfl⟩ ?_
  refine br_t rfl ?_
  rcases sd_cl 28 p1 with a | a
  · exact sx_field0 a (sd_w0 (h0 (fun z => sd_nj (by omega) a (z.1 (by omega)))))
  · refine sx_field1 a (sd_w1 ?_)
    rcases sd_cl 65536 p2 with b | b
    · exact sx_word0 b (sd_w0 (h0 (fun z => sd_nj (by omega) b (z.2.2.1 (by omega)))))
    · exact sx_word1 b (sd_w1 (h1 ⟨fun _ => a, fun z => absurd z (by omega), fun _ => b, fun z => absurd z (by omega), fun z => absurd z (by omega), fun z => absurd z (by omega), fun z => absurd z (by omega), fun z => absurd z (by omega)⟩))
theorem sx_of1 {post : Int32 → Prop} {p1 p2 : Int32} (h0 : ¬ sd_oc 1 p1 p2 → post 0) (h1 : sd_oc 1 p1 p2 → post 1) : wpX_operationFits post (nI 1) p1 p2 := by
  refine sx_BT 14 ⟨1, by omega, rfl⟩ ?_
  refine br_f (by decide) (br_t rfl ?_)
  rcases sd_cl 28 p1 with a | a
  · exact sx_field0 a (sd_w0 (h0 (fun z => sd_nj (by omega) a (z.1 (by omega)))))
  · refine sx_field1 a (sd_w1 ?_)
    rcases sd_cl 2 p2 with b | b
    · exact br_f (sd_2no b).1 (br_f (sd_2no b).2 (h0 (fun z => sd_nj (by omega) b (z.2.2.2.1 (by omega)))))
    · have c := h1 ⟨fun _ => a, fun z => absurd z (by omega), fun z => absurd z (by omega), fun _ => b, fun z => absurd z (by omega), fun z => absurd z (by omega), fun z => absurd z (by omega), fun z => absurd z (by omega)⟩
      exact br_c (fun _ => c) (fun z0 => br_c (fun _ => c) (fun z1 => absurd b (fun b => by
        obtain ⟨j, hj, rfl⟩ := b
        have : j = 0 ∨ j = 1 := by omega
        rcases this with rfl | rfl
        · exact z0 rfl
        · exact z1 rfl)))
theorem sx_of2 {post : Int32 → Prop} {p1 p2 : Int32} (h0 : ¬ sd_oc 2 p1 p2 → post 0) (h1 : sd_oc 2 p1 p2 → post 1) : wpX_operationFits post (nI 2) p1 p2 := by
  refine sx_BT 14 ⟨2, by omega, rfl⟩ ?_
  refine br_f (by decide) (br_f (by decide) (br_t rfl ?_))
  rcases sd_cl 28 p1 with a | a
  · exact sx_field0 a (sd_w0 (h0 (fun z => sd_nj (by omega) a (z.1 (by omega)))))
  · refine sx_field1 a (sd_w1 ?_)
    rcases sd_cl 28 p2 with b | b
    · exact sx_field0 b (sd_w0 (h0 (fun z => sd_nj (by omega) b (z.2.2.2.2.1 (by omega)))))
    · exact sx_field1 b (sd_w1 (h1 ⟨fun _ => a, fun z => absurd z (by omega), fun z => absurd z (by omega), fun z => absurd z (by omega), fun _ => b, fun z => absurd z (by omega), fun z => absurd z (by omega), fun z => absurd z (by omega)⟩))
theorem sx_of3 {post : Int32 → Prop} {p1 p2 : Int32} (h0 : ¬ sd_oc 3 p1 p2 → post 0) (h1 : sd_oc 3 p1 p2 → post 1) : wpX_operationFits post (nI 3) p1 p2 := by
  refine sx_BT 14 ⟨3, by omega, rfl⟩ ?_
  refine br_f (by decide) (br_f (by decide) (br_f (by decide) (br_t rfl ?_)))
  rcases sd_cl 28 p1 with a | a
  · exact sx_field0 a (sd_w0 (h0 (fun z => sd_nj (by omega) a (z.1 (by omega)))))
  · refine sx_field1 a (sd_w1 ?_)
    rcases sd_cl 28 p2 with b | b
    · exact sx_field0 b (sd_w0 (h0 (fun z => sd_nj (by omega) b (z.2.2.2.2.1 (by omega)))))
    · exact sx_field1 b (sd_w1 (h1 ⟨fun _ => a, fun z => absurd z (by omega), fun z => absurd z (by omega), fun z => absurd z (by omega), fun _ => b, fun z => absurd z (by omega), fun z => absurd z (by omega), fun z => absurd z (by omega)⟩))
theorem sx_of4 {post : Int32 → Prop} {p1 p2 : Int32} (h0 : ¬ sd_oc 4 p1 p2 → post 0) (h1 : sd_oc 4 p1 p2 → post 1) : wpX_operationFits post (nI 4) p1 p2 := by
  refine sx_BT 14 ⟨4, by omega, rfl⟩ ?_
  refine br_f (by decide) (br_f (by decide) (br_f (by decide) (br_f (by decide) (br_t rfl ?_))))
  rcases sd_cl 28 p1 with a | a
  · exact sx_field0 a (sd_w0 (h0 (fun z => sd_nj (by omega) a (z.1 (by omega)))))
  · refine sx_field1 a (sd_w1 ?_)
    rcases sd_cl 28 p2 with b | b
    · exact sx_field0 b (sd_w0 (h0 (fun z => sd_nj (by omega) b (z.2.2.2.2.1 (by omega)))))
    · exact sx_field1 b (sd_w1 (h1 ⟨fun _ => a, fun z => absurd z (by omega), fun z => absurd z (by omega), fun z => absurd z (by omega), fun _ => b, fun z => absurd z (by omega), fun z => absurd z (by omega), fun z => absurd z (by omega)⟩))
theorem sx_of5 {post : Int32 → Prop} {p1 p2 : Int32} (h0 : ¬ sd_oc 5 p1 p2 → post 0) (h1 : sd_oc 5 p1 p2 → post 1) : wpX_operationFits post (nI 5) p1 p2 := by
  refine sx_BT 14 ⟨5, by omega, rfl⟩ ?_
  refine br_f (by decide) (br_f (by decide) (br_f (by decide) (br_f (by decide) (br_f (by decide) (br_t rfl ?_)))))
  rcases sd_cl 28 p1 with a | a
  · exact sx_field0 a (sd_w0 (h0 (fun z => sd_nj (by omega) a (z.1 (by omega)))))
  · refine sx_field1 a (sd_w1 ?_)
    rcases sd_cl 28 p2 with b | b
    · exact sx_field0 b (sd_w0 (h0 (fun z => sd_nj (by omega) b (z.2.2.2.2.1 (by omega)))))
    · exact sx_field1 b (sd_w1 (h1 ⟨fun _ => a, fun z => absurd z (by omega), fun z => absurd z (by omega), fun z => absurd z (by omega), fun _ => b, fun z => absurd z (by omega), fun z => absurd z (by omega), fun z => absurd z (by omega)⟩))
theorem sx_of6 {post : Int32 → Prop} {p1 p2 : Int32} (h0 : ¬ sd_oc 6 p1 p2 → post 0) (h1 : sd_oc 6 p1 p2 → post 1) : wpX_operationFits post (nI 6) p1 p2 := by
  refine sx_BT 14 ⟨6, by omega, rfl⟩ ?_
  refine br_f (by decide) (br_f (by decide) (br_f (by decide) (br_f (by decide) (br_f (by decide) (br_f (by decide) (br_t rfl ?_))))))
  rcases sd_cl 6 p1 with a | a
  · exact sx_header0 a ⟨sd_n0, h0 (fun z => sd_nj (by omega) a (z.2.1 (by omega)))⟩
  · exact sx_header1 a ⟨sd_n1, h1 ⟨fun z => absurd z (by omega), fun _ => a, fun z => absurd z (by omega), fun z => absurd z (by omega), fun z => absurd z (by omega), fun z => absurd z (by omega), fun z => absurd z (by omega), fun z => absurd z (by omega)⟩⟩
theorem sx_of7 {post : Int32 → Prop} {p1 p2 : Int32} (h0 : ¬ sd_oc 7 p1 p2 → post 0) (h1 : sd_oc 7 p1 p2 → post 1) : wpX_operationFits post (nI 7) p1 p2 := by
  refine sx_BT 14 ⟨7, by omega, rfl⟩ ?_
  refine br_f (by decide) (br_f (by decide) (br_f (by decide) (br_f (by decide) (br_f (by decide) (br_f (by decide) (br_f (by decide) (br_t rfl ?_)))))))
  rcases sd_cl 6 p1 with a | a
  · exact sx_header0 a ⟨sd_n0, h0 (fun z => sd_nj (by omega) a (z.2.1 (by omega)))⟩
  · exact sx_header1 a ⟨sd_n1, h1 ⟨fun z => absurd z (by omega), fun _ => a, fun z => absurd z (by omega), fun z => absurd z (by omega), fun z => absurd z (by omega), fun z => absurd z (by omega), fun z => absurd z (by omega), fun z => absurd z (by omega)⟩⟩
theorem sx_of8 {post : Int32 → Prop} {p1 p2 : Int32} (h0 : ¬ sd_oc 8 p1 p2 → post 0) (h1 : sd_oc 8 p1 p2 → post 1) : wpX_operationFits post (nI 8) p1 p2 := by
  refine sx_BT 14 ⟨8, by omega, rfl⟩ ?_
  refine br_f (by decide) (br_f (by decide) (br_f (by decide) (br_f (by decide) (br_f (by decide) (br_f (by decide) (br_f (by decide) (br_f (by decide) (br_t rfl ?_))))))))
  exact h1 ⟨fun z => absurd z (by omega), fun z => absurd z (by omega), fun z => absurd z (by omega), fun z => absurd z (by omega), fun z => absurd z (by omega), fun z => absurd z (by omega), fun z => absurd z (by omega), fun z => absurd z (by omega)⟩
theorem sx_of9 {post : Int32 → Prop} {p1 p2 : Int32} (h0 : ¬ sd_oc 9 p1 p2 → post 0) (h1 : sd_oc 9 p1 p2 → post 1) : wpX_operationFits post (nI 9) p1 p2 := by
  refine sx_BT 14 ⟨9, by omega, rfl⟩ ?_
  refine br_f (by decide) (br_f (by decide) (br_f (by decide) (br_f (by decide) (br_f (by decide) (br_f (by decide) (br_f (by decide) (br_f (by decide) (br_f (by decide) (br_t rfl ?_)))))))))
  exact h1 ⟨fun z => absurd z (by omega), fun z => absurd z (by omega), fun z => absurd z (by omega), fun z => absurd z (by omega), fun z => absurd z (by omega), fun z => absurd z (by omega), fun z => absurd z (by omega), fun z => absurd z (by omega)⟩
theorem sx_of10 {post : Int32 → Prop} {p1 p2 : Int32} (h0 : ¬ sd_oc 10 p1 p2 → post 0) (h1 : sd_oc 10 p1 p2 → post 1) : wpX_operationFits post (nI 10) p1 p2 := by
  refine sx_BT 14 ⟨10, by omega, rfl⟩ ?_
  refine br_f (by decide) (br_f (by decide) (br_f (by decide) (br_f (by decide) (br_f (by decide) (br_f (by decide) (br_f (by decide) (br_f (by decide) (br_f (by decide) (br_f (by decide) (br_t rfl ?_))))))))))
  rcases sd_cl 28 p1 with a | a
  · exact sx_field0 a (sd_w0 (h0 (fun z => sd_nj (by omega) a (z.1 (by omega)))))
  · refine sx_field1 a (sd_w1 ?_)
    rcases sd_cl 6 p2 with b | b
    · exact sx_header0 b (sd_w0 (h0 (fun z => sd_nj (by omega) b (z.2.2.2.2.2.1 (by omega)))))
    · exact sx_header1 b (sd_w1 (h1 ⟨fun _ => a, fun z => absurd z (by omega), fun z => absurd z (by omega), fun z => absurd z (by omega), fun z => absurd z (by omega), fun _ => b, fun z => absurd z (by omega), fun z => absurd z (by omega)⟩))
theorem sx_of11 {post : Int32 → Prop} {p1 p2 : Int32} (h0 : ¬ sd_oc 11 p1 p2 → post 0) (h1 : sd_oc 11 p1 p2 → post 1) : wpX_operationFits post (nI 11) p1 p2 := by
  refine sx_BT 14 ⟨11, by omega, rfl⟩ ?_
  refine br_f (by decide) (br_f (by decide) (br_f (by decide) (br_f (by decide) (br_f (by decide) (br_f (by decide) (br_f (by decide) (br_f (by decide) (br_f (by decide) (br_f (by decide) (br_f (by decide) (br_t rfl ?_)))))))))))
  rcases sd_cl 28 p1 with a | a
  · exact sx_field0 a (sd_w0 (h0 (fun z => sd_nj (by omega) a (z.1 (by omega)))))
  · refine sx_field1 a (sd_w1 ?_)
    rcases sd_cl 8 p2 with b | b
    · exact sx_AR 8 b (h0 (fun z => sd_nj (by omega) b (z.2.2.2.2.2.2.1 (by omega))))
    · exact sx_AT 8 b (h1 ⟨fun _ => a, fun z => absurd z (by omega), fun z => absurd z (by omega), fun z => absurd z (by omega), fun z => absurd z (by omega), fun z => absurd z (by omega), fun _ => b, fun z => absurd z (by omega)⟩)
theorem sx_of12 {post : Int32 → Prop} {p1 p2 : Int32} (h0 : ¬ sd_oc 12 p1 p2 → post 0) (h1 : sd_oc 12 p1 p2 → post 1) : wpX_operationFits post (nI 12) p1 p2 := by
  refine sx_BT 14 ⟨12, by omega, rfl⟩ ?_
  refine br_f (by decide) (br_f (by decide) (br_f (by decide) (br_f (by decide) (br_f (by decide) (br_f (by decide) (br_f (by decide) (br_f (by decide) (br_f (by decide) (br_f (by decide) (br_f (by decide) (br_f (by decide) (br_t rfl ?_))))))))))))
  rcases sd_cl 28 p1 with a | a
  · exact sx_field0 a (sd_w0 (h0 (fun z => sd_nj (by omega) a (z.1 (by omega)))))
  · refine sx_field1 a (sd_w1 ?_)
    rcases sd_cl 8 p2 with b | b
    · exact sx_AR 8 b (h0 (fun z => sd_nj (by omega) b (z.2.2.2.2.2.2.1 (by omega))))
    · exact sx_AT 8 b (h1 ⟨fun _ => a, fun z => absurd z (by omega), fun z => absurd z (by omega), fun z => absurd z (by omega), fun z => absurd z (by omega), fun z => absurd z (by omega), fun _ => b, fun z => absurd z (by omega)⟩)
theorem sx_of13 {post : Int32 → Prop} {p1 p2 : Int32} (h0 : ¬ sd_oc 13 p1 p2 → post 0) (h1 : sd_oc 13 p1 p2 → post 1) : wpX_operationFits post (nI 13) p1 p2 := by
  refine sx_BT 14 ⟨13, by omega, rfl⟩ ?_
  refine br_f (by decide) (br_f (by decide) (br_f (by decide) (br_f (by decide) (br_f (by decide) (br_f (by decide) (br_f (by decide) (br_f (by decide) (br_f (by decide) (br_f (by decide) (br_f (by decide) (br_f (by decide) (br_f (by decide) (br_t rfl ?_)))))))))))))
  rcases sd_cl 28 p1 with a | a
  · exact sx_field0 a (sd_w0 (h0 (fun z => sd_nj (by omega) a (z.1 (by omega)))))
  · refine sx_field1 a (sd_w1 ?_)
    rcases sd_cl 8 p2 with b | b
    · exact sx_AR 8 b (h0 (fun z => sd_nj (by omega) b (z.2.2.2.2.2.2.1 (by omega))))
    · exact sx_AT 8 b (h1 ⟨fun _ => a, fun z => absurd z (by omega), fun z => absurd z (by omega), fun z => absurd z (by omega), fun z => absurd z (by omega), fun z => absurd z (by omega), fun _ => b, fun z => absurd z (by omega)⟩)
theorem sx_of14 {post : Int32 → Prop} {p1 p2 : Int32} (h0 : ¬ sd_oc 14 p1 p2 → post 0) (h1 : sd_oc 14 p1 p2 → post 1) : wpX_operationFits post (nI 14) p1 p2 := by
  refine sx_BT 14 ⟨14, by omega, rfl⟩ ?_
  refine br_f (by decide) (br_f (by decide) (br_f (by decide) (br_f (by decide) (br_f (by decide) (br_f (by decide) (br_f (by decide) (br_f (by decide) (br_f (by decide) (br_f (by decide) (br_f (by decide) (br_f (by decide) (br_f (by decide) (br_f (by decide) (br_t rfl ?_))))))))))))))
  rcases sd_cl 28 p1 with a | a
  · exact sx_field0 a (sd_w0 (h0 (fun z => sd_nj (by omega) a (z.1 (by omega)))))
  · refine sx_field1 a (sd_w1 ?_)
    rcases sd_cl 4 p2 with b | b
    · exact sx_meter0 b (sd_w0 (h0 (fun z => sd_nj (by omega) b (z.2.2.2.2.2.2.2 (by omega)))))
    · exact sx_meter1 b (sd_w1 (h1 ⟨fun _ => a, fun z => absurd z (by omega), fun z => absurd z (by omega), fun z => absurd z (by omega), fun z => absurd z (by omega), fun z => absurd z (by omega), fun z => absurd z (by omega), fun _ => b⟩))
theorem sy_of0 {post : Int32 → Prop} {p1 p2 : Int32} (h0 : ¬ sd_oc 0 p1 p2 → post 0) (h1 : sd_oc 0 p1 p2 → post 1) : wpY_isOperation post (nI 0) p1 p2 := by
  refine br_f (by decide) (br_f (by decide) (br_f (by decide) (br_f (by decide) ?_)))
  rcases sd_cl 28 p1 with a | a
  · exact sy_field0 a (sd_w0 (h0 (fun z => sd_nj (by omega) a (z.1 (by omega)))))
  · refine sy_field1 a (sd_w1 ?_)
    rcases sd_cl 65536 p2 with b | b
    · exact br_t rfl (sy_word0 b ⟨sd_n0, h0 (fun z => sd_nj (by omega) b (z.2.2.1 (by omega)))⟩)
    · exact br_t rfl (sy_word1 b ⟨sd_n1, h1 ⟨fun _ => a, fun z => absurd z (by omega), fun _ => b, fun z => absurd z (by omega), fun z => absurd z (by omega), fun z => absurd z (by omega), fun z => absurd z (by omega), fun z => absurd z (by omega)⟩⟩)
theorem sy_of1 {post : Int32 → Prop} {p1 p2 : Int32} (h0 : ¬ sd_oc 1 p1 p2 → post 0) (h1 : sd_oc 1 p1 p2 → post 1) : wpY_isOperation post (nI 1) p1 p2 := by
  refine br_f (by decide) (br_f (by decide) (br_f (by decide) (br_f (by decide) ?_)))
  rcases sd_cl 28 p1 with a | a
  · exact sy_field0 a (sd_w0 (h0 (fun z => sd_nj (by omega) a (z.1 (by omega)))))
  · refine sy_field1 a (sd_w1 ?_)
    rcases sd_cl 2 p2 with b | b
    · exact br_f (by decide) (br_t rfl (sy_in0 1 b ⟨sd_n0, h0 (fun z => sd_nj (by omega) b (z.2.2.2.1 (by omega)))⟩))
    · exact br_f (by decide) (br_t rfl (sy_in1 1 b ⟨sd_n1, h1 ⟨fun _ => a, fun z => absurd z (by omega), fun z => absurd z (by omega), fun _ => b, fun z => absurd z (by omega), fun z => absurd z (by omega), fun z => absurd z (by omega), fun z => absurd z (by omega)⟩⟩))
theorem sy_of2 {post : Int32 → Prop} {p1 p2 : Int32} (h0 : ¬ sd_oc 2 p1 p2 → post 0) (h1 : sd_oc 2 p1 p2 → post 1) : wpY_isOperation post (nI 2) p1 p2 := by
  refine br_f (by decide) (br_f (by decide) (br_f (by decide) (br_f (by decide) ?_)))
  rcases sd_cl 28 p1 with a | a
  · exact sy_field0 a (sd_w0 (h0 (fun z => sd_nj (by omega) a (z.1 (by omega)))))
  · refine sy_field1 a (sd_w1 ?_)
    rcases sd_cl 28 p2 with b | b
    · exact br_f (by decide) (br_f (by decide) (br_f (by decide) (sy_field0 b ⟨sd_n0, h0 (fun z => sd_nj (by omega) b (z.2.2.2.2.1 (by omega)))⟩)))
    · exact br_f (by decide) (br_f (by decide) (br_f (by decide) (sy_field1 b ⟨sd_n1, h1 ⟨fun _ => a, fun z => absurd z (by omega), fun z => absurd z (by omega), fun z => absurd z (by omega), fun _ => b, fun z => absurd z (by omega), fun z => absurd z (by omega), fun z => absurd z (by omega)⟩⟩)))
theorem sy_of3 {post : Int32 → Prop} {p1 p2 : Int32} (h0 : ¬ sd_oc 3 p1 p2 → post 0) (h1 : sd_oc 3 p1 p2 → post 1) : wpY_isOperation post (nI 3) p1 p2 := by
  refine br_f (by decide) (br_f (by decide) (br_f (by decide) (br_f (by decide) ?_)))
  rcases sd_cl 28 p1 with a | a
  · exact sy_field0 a (sd_w0 (h0 (fun z => sd_nj (by omega) a (z.1 (by omega)))))
  · refine sy_field1 a (sd_w1 ?_)
    rcases sd_cl 28 p2 with b | b
    · exact br_f (by decide) (br_f (by decide) (br_f (by decide) (sy_field0 b ⟨sd_n0, h0 (fun z => sd_nj (by omega) b (z.2.2.2.2.1 (by omega)))⟩)))
    · exact br_f (by decide) (br_f (by decide) (br_f (by decide) (sy_field1 b ⟨sd_n1, h1 ⟨fun _ => a, fun z => absurd z (by omega), fun z => absurd z (by omega), fun z => absurd z (by omega), fun _ => b, fun z => absurd z (by omega), fun z => absurd z (by omega), fun z => absurd z (by omega)⟩⟩)))
theorem sy_of4 {post : Int32 → Prop} {p1 p2 : Int32} (h0 : ¬ sd_oc 4 p1 p2 → post 0) (h1 : sd_oc 4 p1 p2 → post 1) : wpY_isOperation post (nI 4) p1 p2 := by
  refine br_f (by decide) (br_f (by decide) (br_f (by decide) (br_f (by decide) ?_)))
  rcases sd_cl 28 p1 with a | a
  · exact sy_field0 a (sd_w0 (h0 (fun z => sd_nj (by omega) a (z.1 (by omega)))))
  · refine sy_field1 a (sd_w1 ?_)
    rcases sd_cl 28 p2 with b | b
    · exact br_f (by decide) (br_f (by decide) (br_f (by decide) (sy_field0 b ⟨sd_n0, h0 (fun z => sd_nj (by omega) b (z.2.2.2.2.1 (by omega)))⟩)))
    · exact br_f (by decide) (br_f (by decide) (br_f (by decide) (sy_field1 b ⟨sd_n1, h1 ⟨fun _ => a, fun z => absurd z (by omega), fun z => absurd z (by omega), fun z => absurd z (by omega), fun _ => b, fun z => absurd z (by omega), fun z => absurd z (by omega), fun z => absurd z (by omega)⟩⟩)))
theorem sy_of5 {post : Int32 → Prop} {p1 p2 : Int32} (h0 : ¬ sd_oc 5 p1 p2 → post 0) (h1 : sd_oc 5 p1 p2 → post 1) : wpY_isOperation post (nI 5) p1 p2 := by
  refine br_f (by decide) (br_f (by decide) (br_f (by decide) (br_f (by decide) ?_)))
  rcases sd_cl 28 p1 with a | a
  · exact sy_field0 a (sd_w0 (h0 (fun z => sd_nj (by omega) a (z.1 (by omega)))))
  · refine sy_field1 a (sd_w1 ?_)
    rcases sd_cl 28 p2 with b | b
    · exact br_f (by decide) (br_f (by decide) (br_f (by decide) (sy_field0 b ⟨sd_n0, h0 (fun z => sd_nj (by omega) b (z.2.2.2.2.1 (by omega)))⟩)))
    · exact br_f (by decide) (br_f (by decide) (br_f (by decide) (sy_field1 b ⟨sd_n1, h1 ⟨fun _ => a, fun z => absurd z (by omega), fun z => absurd z (by omega), fun z => absurd z (by omega), fun _ => b, fun z => absurd z (by omega), fun z => absurd z (by omega), fun z => absurd z (by omega)⟩⟩)))
theorem sy_of6 {post : Int32 → Prop} {p1 p2 : Int32} (h0 : ¬ sd_oc 6 p1 p2 → post 0) (h1 : sd_oc 6 p1 p2 → post 1) : wpY_isOperation post (nI 6) p1 p2 := by
  refine br_f (by decide) (br_f (by decide) (br_t rfl ?_))
  rcases sd_cl 6 p1 with a | a
  · exact sy_in0 5 a ⟨sd_n0, h0 (fun z => sd_nj (by omega) a (z.2.1 (by omega)))⟩
  · exact sy_in1 5 a ⟨sd_n1, h1 ⟨fun z => absurd z (by omega), fun _ => a, fun z => absurd z (by omega), fun z => absurd z (by omega), fun z => absurd z (by omega), fun z => absurd z (by omega), fun z => absurd z (by omega), fun z => absurd z (by omega)⟩⟩
theorem sy_of7 {post : Int32 → Prop} {p1 p2 : Int32} (h0 : ¬ sd_oc 7 p1 p2 → post 0) (h1 : sd_oc 7 p1 p2 → post 1) : wpY_isOperation post (nI 7) p1 p2 := by
  refine br_f (by decide) (br_f (by decide) (br_f (by decide) (br_t rfl ?_)))
  rcases sd_cl 6 p1 with a | a
  · exact sy_in0 5 a ⟨sd_n0, h0 (fun z => sd_nj (by omega) a (z.2.1 (by omega)))⟩
  · exact sy_in1 5 a ⟨sd_n1, h1 ⟨fun z => absurd z (by omega), fun _ => a, fun z => absurd z (by omega), fun z => absurd z (by omega), fun z => absurd z (by omega), fun z => absurd z (by omega), fun z => absurd z (by omega), fun z => absurd z (by omega)⟩⟩
theorem sy_of8 {post : Int32 → Prop} {p1 p2 : Int32} (h0 : ¬ sd_oc 8 p1 p2 → post 0) (h1 : sd_oc 8 p1 p2 → post 1) : wpY_isOperation post (nI 8) p1 p2 := by
  exact br_t rfl (h1 ⟨fun z => absurd z (by omega), fun z => absurd z (by omega), fun z => absurd z (by omega), fun z => absurd z (by omega), fun z => absurd z (by omega), fun z => absurd z (by omega), fun z => absurd z (by omega), fun z => absurd z (by omega)⟩)
theorem sy_of9 {post : Int32 → Prop} {p1 p2 : Int32} (h0 : ¬ sd_oc 9 p1 p2 → post 0) (h1 : sd_oc 9 p1 p2 → post 1) : wpY_isOperation post (nI 9) p1 p2 := by
  exact br_f (by decide) (br_t rfl (h1 ⟨fun z => absurd z (by omega), fun z => absurd z (by omega), fun z => absurd z (by omega), fun z => absurd z (by omega), fun z => absurd z (by omega), fun z => absurd z (by omega), fun z => absurd z (by omega), fun z => absurd z (by omega)⟩))
theorem sy_of10 {post : Int32 → Prop} {p1 p2 : Int32} (h0 : ¬ sd_oc 10 p1 p2 → post 0) (h1 : sd_oc 10 p1 p2 → post 1) : wpY_isOperation post (nI 10) p1 p2 := by
  refine br_f (by decide) (br_f (by decide) (br_f (by decide) (br_f (by decide) ?_)))
  rcases sd_cl 28 p1 with a | a
  · exact sy_field0 a (sd_w0 (h0 (fun z => sd_nj (by omega) a (z.1 (by omega)))))
  · refine sy_field1 a (sd_w1 ?_)
    rcases sd_cl 6 p2 with b | b
    · exact br_f (by decide) (br_f (by decide) (br_t (by decide) (br_t rfl (sy_in0 5 b ⟨sd_n0, h0 (fun z => sd_nj (by omega) b (z.2.2.2.2.2.1 (by omega)))⟩))))
    · exact br_f (by decide) (br_f (by decide) (br_t (by decide) (br_t rfl (sy_in1 5 b ⟨sd_n1, h1 ⟨fun _ => a, fun z => absurd z (by omega), fun z => absurd z (by omega), fun z => absurd z (by omega), fun z => absurd z (by omega), fun _ => b, fun z => absurd z (by omega), fun z => absurd z (by omega)⟩⟩))))
theorem sy_of11 {post : Int32 → Prop} {p1 p2 : Int32} (h0 : ¬ sd_oc 11 p1 p2 → post 0) (h1 : sd_oc 11 p1 p2 → post 1) : wpY_isOperation post (nI 11) p1 p2 := by
  refine br_f (by decide) (br_f (by decide) (br_f (by decide) (br_f (by decide) ?_)))
  rcases sd_cl 28 p1 with a | a
  · exact sy_field0 a (sd_w0 (h0 (fun z => sd_nj (by omega) a (z.1 (by omega)))))
  · refine sy_field1 a (sd_w1 ?_)
    rcases sd_cl 8 p2 with b | b
    · exact br_f (by decide) (br_f (by decide) (br_t (by decide) (br_f (by decide) (br_f (by decide) (sy_in0 7 b ⟨sd_n0, h0 (fun z => sd_nj (by omega) b (z.2.2.2.2.2.2.1 (by omega)))⟩)))))
    · exact br_f (by decide) (br_f (by decide) (br_t (by decide) (br_f (by decide) (br_f (by decide) (sy_in1 7 b ⟨sd_n1, h1 ⟨fun _ => a, fun z => absurd z (by omega), fun z => absurd z (by omega), fun z => absurd z (by omega), fun z => absurd z (by omega), fun z => absurd z (by omega), fun _ => b, fun z => absurd z (by omega)⟩⟩)))))
theorem sy_of12 {post : Int32 → Prop} {p1 p2 : Int32} (h0 : ¬ sd_oc 12 p1 p2 → post 0) (h1 : sd_oc 12 p1 p2 → post 1) : wpY_isOperation post (nI 12) p1 p2 := by
  refine br_f (by decide) (br_f (by decide) (br_f (by decide) (br_f (by decide) ?_)))
  rcases sd_cl 28 p1 with a | a
  · exact sy_field0 a (sd_w0 (h0 (fun z => sd_nj (by omega) a (z.1 (by omega)))))
  · refine sy_field1 a (sd_w1 ?_)
    rcases sd_cl 8 p2 with b | b
    · exact br_f (by decide) (br_f (by decide) (br_t (by decide) (br_f (by decide) (br_f (by decide) (sy_in0 7 b ⟨sd_n0, h0 (fun z => sd_nj (by omega) b (z.2.2.2.2.2.2.1 (by omega)))⟩)))))
    · exact br_f (by decide) (br_f (by decide) (br_t (by decide) (br_f (by decide) (br_f (by decide) (sy_in1 7 b ⟨sd_n1, h1 ⟨fun _ => a, fun z => absurd z (by omega), fun z => absurd z (by omega), fun z => absurd z (by omega), fun z => absurd z (by omega), fun z => absurd z (by omega), fun _ => b, fun z => absurd z (by omega)⟩⟩)))))
theorem sy_of13 {post : Int32 → Prop} {p1 p2 : Int32} (h0 : ¬ sd_oc 13 p1 p2 → post 0) (h1 : sd_oc 13 p1 p2 → post 1) : wpY_isOperation post (nI 13) p1 p2 := by
  refine br_f (by decide) (br_f (by decide) (br_f (by decide) (br_f (by decide) ?_)))
  rcases sd_cl 28 p1 with a | a
  · exact sy_field0 a (sd_w0 (h0 (fun z => sd_nj (by omega) a (z.1 (by omega)))))
  · refine sy_field1 a (sd_w1 ?_)
    rcases sd_cl 8 p2 with b | b
    · exact br_f (by decide) (br_f (by decide) (br_t (by decide) (br_f (by decide) (br_f (by decide) (sy_in0 7 b ⟨sd_n0, h0 (fun z => sd_nj (by omega) b (z.2.2.2.2.2.2.1 (by omega)))⟩)))))
    · exact br_f (by decide) (br_f (by decide) (br_t (by decide) (br_f (by decide) (br_f (by decide) (sy_in1 7 b ⟨sd_n1, h1 ⟨fun _ => a, fun z => absurd z (by omega), fun z => absurd z (by omega), fun z => absurd z (by omega), fun z => absurd z (by omega), fun z => absurd z (by omega), fun _ => b, fun z => absurd z (by omega)⟩⟩)))))
theorem sy_of14 {post : Int32 → Prop} {p1 p2 : Int32} (h0 : ¬ sd_oc 14 p1 p2 → post 0) (h1 : sd_oc 14 p1 p2 → post 1) : wpY_isOperation post (nI 14) p1 p2 := by
  refine br_f (by decide) (br_f (by decide) (br_f (by decide) (br_f (by decide) ?_)))
  rcases sd_cl 28 p1 with a | a
  · exact sy_field0 a (sd_w0 (h0 (fun z => sd_nj (by omega) a (z.1 (by omega)))))
  · refine sy_field1 a (sd_w1 ?_)
    rcases sd_cl 4 p2 with b | b
    · exact br_f (by decide) (br_f (by decide) (br_t (by decide) (br_f (by decide) (br_t rfl (sy_in0 3 b ⟨sd_n0, h0 (fun z => sd_nj (by omega) b (z.2.2.2.2.2.2.2 (by omega)))⟩)))))
    · exact br_f (by decide) (br_f (by decide) (br_t (by decide) (br_f (by decide) (br_t rfl (sy_in1 3 b ⟨sd_n1, h1 ⟨fun _ => a, fun z => absurd z (by omega), fun z => absurd z (by omega), fun z => absurd z (by omega), fun z => absurd z (by omega), fun z => absurd z (by omega), fun z => absurd z (by omega), fun _ => b⟩⟩)))))
theorem sx_of {post : Int32 → Prop} {n : Nat} {p1 p2 : Int32} (hn : n < 15) (h0 : ¬ sd_oc n p1 p2 → post 0) (h1 : sd_oc n p1 p2 → post 1) : wpX_operationFits post (nI n) p1 p2 := by
  have : n = 0 ∨ n = 1 ∨ n = 2 ∨ n = 3 ∨ n = 4 ∨ n = 5 ∨ n = 6 ∨ n = 7 ∨ n = 8 ∨ n = 9 ∨ n = 10 ∨ n = 11 ∨ n = 12 ∨ n = 13 ∨ n = 14 := by omega
  rcases this with rfl | rfl | rfl | rfl | rfl | rfl | rfl | rfl | rfl | rfl | rfl | rfl | rfl | rfl | rfl
  · exact sx_of0 h0 h1
  · exact sx_of1 h0 h1
  · exact sx_of2 h0 h1
  · exact sx_of3 h0 h1
  · exact sx_of4 h0 h1
  · exact sx_of5 h0 h1
  · exact sx_of6 h0 h1
  · exact sx_of7 h0 h1
  · exact sx_of8 h0 h1
  · exact sx_of9 h0 h1
  · exact sx_of10 h0 h1
  · exact sx_of11 h0 h1
  · exact sx_of12 h0 h1
  · exact sx_of13 h0 h1
  · exact sx_of14 h0 h1
theorem sy_of {post : Int32 → Prop} {n : Nat} {p1 p2 : Int32} (hn : n < 15) (h0 : ¬ sd_oc n p1 p2 → post 0) (h1 : sd_oc n p1 p2 → post 1) : wpY_isOperation post (nI n) p1 p2 := by
  have : n = 0 ∨ n = 1 ∨ n = 2 ∨ n = 3 ∨ n = 4 ∨ n = 5 ∨ n = 6 ∨ n = 7 ∨ n = 8 ∨ n = 9 ∨ n = 10 ∨ n = 11 ∨ n = 12 ∨ n = 13 ∨ n = 14 := by omega
  rcases this with rfl | rfl | rfl | rfl | rfl | rfl | rfl | rfl | rfl | rfl | rfl | rfl | rfl | rfl | rfl
  · exact sy_of0 h0 h1
  · exact sy_of1 h0 h1
  · exact sy_of2 h0 h1
  · exact sy_of3 h0 h1
  · exact sy_of4 h0 h1
  · exact sy_of5 h0 h1
  · exact sy_of6 h0 h1
  · exact sy_of7 h0 h1
  · exact sy_of8 h0 h1
  · exact sy_of9 h0 h1
  · exact sy_of10 h0 h1
  · exact sy_of11 h0 h1
  · exact sy_of12 h0 h1
  · exact sy_of13 h0 h1
  · exact sy_of14 h0 h1
theorem sd_oo {n : Nat} {f x : Int32} (hn : n < 15) (h : sd_oc n f x) : sd_op (nI n) f x :=
  ⟨n, by omega, rfl, h.1, h.2.1, h.2.2.2.2.1, h.2.2.2.2.2.1, h.2.2.2.2.2.2.1, h.2.2.2.2.2.2.2⟩
theorem sd_Oo (hO : sd_O ops opn ow oq ox) {a n : Nat} (ha : a < 8) (hn : n < 5) {w f x : Int32} (h : sd_op w f x) :
    sd_O (upd (upd (upd ops ((5 * a + n) * 3) w) ((5 * a + n) * 3 + 1) f) ((5 * a + n) * 3 + 2) x) (upd opn a (nI (n + 1))) (upd ow (5 * a + n) w) (upd oq (5 * a + n) f) (upd ox (5 * a + n) x) := by
  refine ⟨fun b hb => ?_, fun j hj => ?_⟩
  · by_cases e : b = a
    · subst e; rw [pk_us]; exact ⟨n + 1, by omega, rfl⟩
    · rw [pk_un e]; exact hO.1 b hb
  · by_cases e : j = 5 * a + n
    · subst e
      simp (disch := omega) only [pk_us, pk_un]
      exact ⟨trivial, trivial, trivial, h⟩
    · simp (disch := omega) only [pk_un]
      exact hO.2 j hj
theorem i_vc_operation {k : Nat} {u : SX} {v : SY} (I : i_Rel k u v) (hk : k + 7 ≤ 3584) (v1 : Int32) (v2 : Int32) (v3 : Int32) (v4 : Int32) : wpX_operation (fun r u' => wpY_operation (fun r' v' => r' = r ∧ i_Rel (k + 7) u' v') v v1 v2 v3 v4) u v1 v2 v3 v4 := by
  refine sd_el (C := fun u v => wpX_operation (fun r u' => wpY_operation (fun r' v' => r' = r ∧ i_Rel (k + 7) u' v') v v1 v2 v3 v4) u v1 v2 v3 v4) I (fun sc oc bt bb da ag lo tp sb sd tk tl tt ma ol dr ay gl fw fv hv sts ops opn rg kf kk th ens mv mm sps ho pb pz rc mr md mt gp qc qq qe lc tq ta lk go ca cv cm cg ow oq ox sw sa sz sg ra ac ea eb ch ty bi mk yb le gt hF hS hO hE hP hH hT hU hG hW hQ => ?_)
  have J : i_Rel (k + 7) (sc, oc, bt, bb, da, ag, lo, tp, sb, sd, tk, fw, fv, hv, sts, ops, opn, rg, kf, kk, th, ens, mv, mm, sps, ho, pb, pz, rc, mr, md, mt, gp, qc, qq, qe, lc, tq) (sc, oc, tl, tt, bt, ma, ol, tp, sb, sd, tk, dr, ay, gl, fw, fv, hv, ta, lk, go, ca, cv, cm, cg, opn, ow, oq, ox, rg, sw, sa, sz, sg, ho, kf, kk, ra, ac, ea, eb, ch, th, mv, mm, ty, bi, mk, rc, mr, md, mt, gp, yb, le, qc, qe, qq, tq, lc, gt) := sd_mk hF hS hO hE hP hH hT hU hG hW hQ
  unfold wpX_operation wpY_operation
  rcases sd_cl 8 v1 with h | h
  · exact sx_AR 8 h (sy_in0 7 h (sd_w0 ⟨rfl, J⟩))
  · refine sx_AT 8 h ?_
    rcases sd_cl 15 v2 with g | g
    · exact sx_BR 14 g (sd_w0 (sy_in1 7 h (sd_w1 (sy_in0 14 g (sd_w0 ⟨rfl, J⟩)))))
    · obtain ⟨n, hn, rfl⟩ := id g
      refine sx_of hn (fun z => sd_w0 (sy_in1 7 h (sd_w1 (sy_in1 14 g (sd_w1 (sy_of hn (fun _ => sd_w0 ⟨rfl, J⟩) (fun y => absurd y z))))))) (fun z => sd_w1 ?_)
      obtain ⟨a, ha, rfl⟩ := id h
      obtain ⟨m, hm, ho⟩ := hO.1 a ha
      refine ⟨vp_in_nI ha (by decide), ?_⟩
      rw [nI_clamp (n := a) (by omega)]
      refine nm_r ho (pk_lt m 5 (fun m5 => ?_) (fun m5 => ?_))
      · have e : (nI a * 5 + nI m) * 3 = nI ((5 * a + m) * 3) := by
          have e1 : nI a * 5 + nI m = nI (5 * a + m) := (sd_ma a 5 m).trans (by rw [Nat.mul_comm])
          rw [e1]
          exact pk_mul _ 3
        refine nm_r e (sd_st ((5 * a + m) * 3) rfl (by omega) (by decide) (sd_st ((5 * a + m) * 3 + 1) (nI_add _ 1) (by omega) (by decide) (sd_st ((5 * a + m) * 3 + 2) (nI_add _ 2) (by omega) (by decide) ⟨vp_in_nI ha (by decide), ?_⟩)))
        rw [nI_1]
        refine nm_e (sy_in1 7 h (sd_w1 (sy_in1 14 g (sd_w1 (sy_of hn (fun y => absurd z y) (fun _ => sd_w1 ⟨vp_in_nI ha (by decide), ?_⟩))))))
        rw [ho]
        refine br_f (fun y => absurd ((nI_eq (a := m) (b := 5) (by omega) (by omega)).mp y) (by omega)) ⟨vp_in_nI ha (by decide), nm_r (sd_am a 5 m) (sd_st (5 * a + m) rfl (by omega) (by decide) (sd_st (5 * a + m) rfl (by omega) (by decide) (sd_st (5 * a + m) rfl (by omega) (by decide) ⟨vp_in_nI ha (by decide), vp_in_nI ha (by decide), ?_⟩)))⟩
        rw [nI_1]
        exact nm_e ⟨rfl, sd_mk hF hS (sd_Oo hO ha m5 (sd_oo hn z)) hE hP hH hT hU hG hW hQ⟩
      · refine sy_in1 7 h (sd_w1 (sy_in1 14 g (sd_w1 (sy_of hn (fun y => absurd z y) (fun _ => sd_w1 ⟨vp_in_nI ha (by decide), ?_⟩)))))
        rw [ho]
        exact br_t ((nI_eq (a := m) (b := 5) (by omega) (by omega)).mpr (by omega)) ⟨rfl, J⟩
def sd_sc (n : Nat) (a b : Int32) : Prop := (n = 0 → sd_rg 4 a) ∧ (n = 1 → sd_rg 8 a) ∧ ((n = 2 ∨ n = 4) → sd_rg 28 a) ∧ (n = 3 → sd_rg 6 a) ∧ ((n = 1 ∨ n = 2) → sd_rg 65536 b) ∧ (n = 4 → sd_rg 28 b)
theorem sx_sf0 {post : Int32 → Prop} {p1 p2 : Int32} (h0 : ¬ sd_sc 0 p1 p2 → post 0) (h1 : sd_sc 0 p1 p2 → post 1) : wpX_stepFits post (nI 0) p1 p2 := by
  refine sx_BT 5 ⟨0, by omega, rfl⟩ ?_
  refine br_t rfl ?_
  rcases sd_cl 4 p1 with a | a
  · exact sx_AR 4 a (h0 (fun z => sd_nj (by omega) a (z.1 (by omega))))
  · exact sx_AT 4 a (h1 ⟨fun _ => a, fun z => absurd z (by omega), fun z => absurd z (by omega), fun z => absurd z (by omega), fun z => absurd z (by omega), fun z => absurd z (by omega)⟩)
theorem sx_sf1 {post : Int32 → Prop} {p1 p2 : Int32} (h0 : ¬ sd_sc 1 p1 p2 → post 0) (h1 : sd_sc 1 p1 p2 → post 1) : wpX_stepFits post (nI 1) p1 p2 := by
  refine sx_BT 5 ⟨1, by omega, rfl⟩ ?_
  refine br_f (by decide) (br_t rfl ?_)
  rcases sd_cl 8 p1 with a | a
  · exact sx_AR 8 a (h0 (fun z => sd_nj (by omega) a (z.2.1 (by omega))))
  · rcases sd_cl 65536 p2 with b | b
    · exact sx_AT 8 a (sx_word0 b (sd_w0 (h0 (fun z => sd_nj (by omega) b (z.2.2.2.2.1 (by omega))))))
    · exact sx_AT 8 a (sx_word1 b (sd_w1 (h1 ⟨fun z => absurd z (by omega), fun _ => a, fun z => absurd z (by omega), fun z => absurd z (by omega), fun _ => b, fun z => absurd z (by omega)⟩)))
theorem sx_sf2 {post : Int32 → Prop} {p1 p2 : Int32} (h0 : ¬ sd_sc 2 p1 p2 → post 0) (h1 : sd_sc 2 p1 p2 → post 1) : wpX_stepFits post (nI 2) p1 p2 := by
  refine sx_BT 5 ⟨2, by omega, rfl⟩ ?_
  refine br_f (by decide) (br_f (by decide) (br_t rfl ?_))
  rcases sd_cl 28 p1 with a | a
  · exact sx_field0 a (sd_w0 (h0 (fun z => sd_nj (by omega) a (z.2.2.1 (by omega)))))
  · rcases sd_cl 65536 p2 with b | b
    · exact sx_field1 a (sd_w1 (sx_word0 b (sd_w0 (h0 (fun z => sd_nj (by omega) b (z.2.2.2.2.1 (by omega)))))))
    · exact sx_field1 a (sd_w1 (sx_word1 b (sd_w1 (h1 ⟨fun z => absurd z (by omega), fun z => absurd z (by omega), fun _ => a, fun z => absurd z (by omega), fun _ => b, fun z => absurd z (by omega)⟩))))
theorem sx_sf3 {post : Int32 → Prop} {p1 p2 : Int32} (h0 : ¬ sd_sc 3 p1 p2 → post 0) (h1 : sd_sc 3 p1 p2 → post 1) : wpX_stepFits post (nI 3) p1 p2 := by
  refine sx_BT 5 ⟨3, by omega, rfl⟩ ?_
  refine br_f (by decide) (br_f (by decide) (br_f (by decide) (br_t rfl ?_)))
  rcases sd_cl 6 p1 with a | a
  · exact sx_header0 a ⟨sd_n0, h0 (fun z => sd_nj (by omega) a (z.2.2.2.1 (by omega)))⟩
  · exact sx_header1 a ⟨sd_n1, h1 ⟨fun z => absurd z (by omega), fun z => absurd z (by omega), fun z => absurd z (by omega), fun _ => a, fun z => absurd z (by omega), fun z => absurd z (by omega)⟩⟩
theorem sx_sf4 {post : Int32 → Prop} {p1 p2 : Int32} (h0 : ¬ sd_sc 4 p1 p2 → post 0) (h1 : sd_sc 4 p1 p2 → post 1) : wpX_stepFits post (nI 4) p1 p2 := by
  refine sx_BT 5 ⟨4, by omega, rfl⟩ ?_
  refine br_f (by decide) (br_f (by decide) (br_f (by decide) (br_f (by decide) (br_t rfl ?_))))
  rcases sd_cl 28 p1 with a | a
  · exact sx_field0 a (sd_w0 (h0 (fun z => sd_nj (by omega) a (z.2.2.1 (by omega)))))
  · rcases sd_cl 28 p2 with b | b
    · exact sx_field1 a (sd_w1 (sx_field0 b (sd_w0 (h0 (fun z => sd_nj (by omega) b (z.2.2.2.2.2 (by omega)))))))
    · exact sx_field1 a (sd_w1 (sx_field1 b (sd_w1 (h1 ⟨fun z => absurd z (by omega), fun z => absurd z (by omega), fun _ => a, fun z => absurd z (by omega), fun z => absurd z (by omega), fun _ => b⟩))))
theorem sx_sf5 {post : Int32 → Prop} {p1 p2 : Int32} (h0 : ¬ sd_sc 5 p1 p2 → post 0) (h1 : sd_sc 5 p1 p2 → post 1) : wpX_stepFits post (nI 5) p1 p2 := by
  refine sx_BT 5 ⟨5, by omega, rfl⟩ ?_
  refine br_f (by decide) (br_f (by decide) (br_f (by decide) (br_f (by decide) (br_f (by decide) (br_t rfl ?_)))))
  exact h1 ⟨fun z => absurd z (by omega), fun z => absurd z (by omega), fun z => absurd z (by omega), fun z => absurd z (by omega), fun z => absurd z (by omega), fun z => absurd z (by omega)⟩
theorem sx_sf {post : Int32 → Prop} {n : Nat} {p1 p2 : Int32} (hn : n < 6) (h0 : ¬ sd_sc n p1 p2 → post 0) (h1 : sd_sc n p1 p2 → post 1) : wpX_stepFits post (nI n) p1 p2 := by
  have : n = 0 ∨ n = 1 ∨ n = 2 ∨ n = 3 ∨ n = 4 ∨ n = 5 := by omega
  rcases this with rfl | rfl | rfl | rfl | rfl | rfl
  · exact sx_sf0 h0 h1
  · exact sx_sf1 h0 h1
  · exact sx_sf2 h0 h1
  · exact sx_sf3 h0 h1
  · exact sx_sf4 h0 h1
  · exact sx_sf5 h0 h1
theorem sy_sf0 {post : Int32 → SY → Prop} {x2 x3 x4 : Int32} (h0 : ¬ sd_sc 0 x2 x3 → post (-1) (sc, oc, tl, tt, bt, ma, ol, tp, sb, sd, tk, dr, ay, gl, fw, fv, hv, ta, lk, go, ca, cv, cm, cg, opn, ow, oq, ox, rg, sw, sa, sz, sg, ho, kf, kk, ra, ac, ea, eb, ch, th, mv, mm, ty, bi, mk, rc, mr, md, mt, gp, yb, le, qc, qe, qq, tq, lc, gt)) (h1 : sd_sc 0 x2 x3 → wY_step_118 post (nI 0) x2 x3 x4 sc oc tl tt bt ma ol tp sb sd tk dr ay gl fw fv hv ta lk go ca cv cm cg opn ow oq ox rg sw sa sz sg ho kf kk ra ac ea eb ch th mv mm ty bi mk rc mr md mt gp yb le qc qe qq tq lc gt) : wY_step_41 post (nI 0) x2 x3 x4 sc oc tl tt bt ma ol tp sb sd tk dr ay gl fw fv hv ta lk go ca cv cm cg opn ow oq ox rg sw sa sz sg ho kf kk ra ac ea eb ch th mv mm ty bi mk rc mr md mt gp yb le qc qe qq tq lc gt := by
  rcases sd_cl 4 x2 with a | a
  · exact br_t rfl (br_f (by decide) (sy_in0 3 a (sd_w0 (h0 (fun z => sd_nj (by omega) a (z.1 (by omega)))))))
  · exact br_t rfl (br_f (by decide) (sy_in1 3 a (sd_w1 (br_f (by decide) (br_f (by decide) (br_f (by decide) (h1 ⟨fun _ => a, fun z => absurd z (by omega), fun z => absurd z (by omega), fun z => absurd z (by omega), fun z => absurd z (by omega), fun z => absurd z (by omega)⟩)))))))
theorem sy_sf1 {post : Int32 → SY → Prop} {x2 x3 x4 : Int32} (h0 : ¬ sd_sc 1 x2 x3 → post (-1) (sc, oc, tl, tt, bt, ma, ol, tp, sb, sd, tk, dr, ay, gl, fw, fv, hv, ta, lk, go, ca, cv, cm, cg, opn, ow, oq, ox, rg, sw, sa, sz, sg, ho, kf, kk, ra, ac, ea, eb, ch, th, mv, mm, ty, bi, mk, rc, mr, md, mt, gp, yb, le, qc, qe, qq, tq, lc, gt)) (h1 : sd_sc 1 x2 x3 → wY_step_118 post (nI 1) x2 x3 x4 sc oc tl tt bt ma ol tp sb sd tk dr ay gl fw fv hv ta lk go ca cv cm cg opn ow oq ox rg sw sa sz sg ho kf kk ra ac ea eb ch th mv mm ty bi mk rc mr md mt gp yb le qc qe qq tq lc gt) : wY_step_41 post (nI 1) x2 x3 x4 sc oc tl tt bt ma ol tp sb sd tk dr ay gl fw fv hv ta lk go ca cv cm cg opn ow oq ox rg sw sa sz sg ho kf kk ra ac ea eb ch th mv mm ty bi mk rc mr md mt gp yb le qc qe qq tq lc gt := by
  rcases sd_cl 8 x2 with a | a
  · exact br_f (by decide) (br_t rfl (br_f (by decide) (sy_in0 7 a (sd_w0 (h0 (fun z => sd_nj (by omega) a (z.2.1 (by omega))))))))
  · rcases sd_cl 65536 x3 with b | b
    · exact br_f (by decide) (br_t rfl (br_f (by decide) (sy_in1 7 a (sd_w1 (br_t rfl (sy_word0 b (sd_w0 (h0 (fun z => sd_nj (by omega) b (z.2.2.2.2.1 (by omega)))))))))))
    · exact br_f (by decide) (br_t rfl (br_f (by decide) (sy_in1 7 a (sd_w1 (br_t rfl (sy_word1 b (sd_w1 (br_f (by decide) (h1 ⟨fun z => absurd z (by omega), fun _ => a, fun z => absurd z (by omega), fun z => absurd z (by omega), fun _ => b, fun z => absurd z (by omega)⟩)))))))))
theorem sy_sf2 {post : Int32 → SY → Prop} {x2 x3 x4 : Int32} (h0 : ¬ sd_sc 2 x2 x3 → post (-1) (sc, oc, tl, tt, bt, ma, ol, tp, sb, sd, tk, dr, ay, gl, fw, fv, hv, ta, lk, go, ca, cv, cm, cg, opn, ow, oq, ox, rg, sw, sa, sz, sg, ho, kf, kk, ra, ac, ea, eb, ch, th, mv, mm, ty, bi, mk, rc, mr, md, mt, gp, yb, le, qc, qe, qq, tq, lc, gt)) (h1 : sd_sc 2 x2 x3 → wY_step_118 post (nI 2) x2 x3 x4 sc oc tl tt bt ma ol tp sb sd tk dr ay gl fw fv hv ta lk go ca cv cm cg opn ow oq ox rg sw sa sz sg ho kf kk ra ac ea eb ch th mv mm ty bi mk rc mr md mt gp yb le qc qe qq tq lc gt) : wY_step_41 post (nI 2) x2 x3 x4 sc oc tl tt bt ma ol tp sb sd tk dr ay gl fw fv hv ta lk go ca cv cm cg opn ow oq ox rg sw sa sz sg ho kf kk ra ac ea eb ch th mv mm ty bi mk rc mr md mt gp yb le qc qe qq tq lc gt := by
  rcases sd_cl 28 x2 with a | a
  · exact br_f (by decide) (br_f (by decide) (br_f (by decide) (br_f (by decide) (sy_in0 27 a (sd_w0 (h0 (fun z => sd_nj (by omega) a (z.2.2.1 (by omega)))))))))
  · rcases sd_cl 65536 x3 with b | b
    · exact br_f (by decide) (br_f (by decide) (br_f (by decide) (br_f (by decide) (sy_in1 27 a (sd_w1 (br_f (by decide) (br_t rfl (sy_word0 b (sd_w0 (h0 (fun z => sd_nj (by omega) b (z.2.2.2.2.1 (by omega)))))))))))))
    · exact br_f (by decide) (br_f (by decide) (br_f (by decide) (br_f (by decide) (sy_in1 27 a (sd_w1 (br_f (by decide) (br_t rfl (sy_word1 b (sd_w1 (br_f (by decide) (h1 ⟨fun z => absurd z (by omega), fun z => absurd z (by omega), fun _ => a, fun z => absurd z (by omega), fun _ => b, fun z => absurd z (by omega)⟩)))))))))))
theorem sy_sf3 {post : Int32 → SY → Prop} {x2 x3 x4 : Int32} (h0 : ¬ sd_sc 3 x2 x3 → post (-1) (sc, oc, tl, tt, bt, ma, ol, tp, sb, sd, tk, dr, ay, gl, fw, fv, hv, ta, lk, go, ca, cv, cm, cg, opn, ow, oq, ox, rg, sw, sa, sz, sg, ho, kf, kk, ra, ac, ea, eb, ch, th, mv, mm, ty, bi, mk, rc, mr, md, mt, gp, yb, le, qc, qe, qq, tq, lc, gt)) (h1 : sd_sc 3 x2 x3 → wY_step_118 post (nI 3) x2 x3 x4 sc oc tl tt bt ma ol tp sb sd tk dr ay gl fw fv hv ta lk go ca cv cm cg opn ow oq ox rg sw sa sz sg ho kf kk ra ac ea eb ch th mv mm ty bi mk rc mr md mt gp yb le qc qe qq tq lc gt) : wY_step_41 post (nI 3) x2 x3 x4 sc oc tl tt bt ma ol tp sb sd tk dr ay gl fw fv hv ta lk go ca cv cm cg opn ow oq ox rg sw sa sz sg ho kf kk ra ac ea eb ch th mv mm ty bi mk rc mr md mt gp yb le qc qe qq tq lc gt := by
  rcases sd_cl 6 x2 with a | a
  · exact br_f (by decide) (br_f (by decide) (br_t rfl (br_f (by decide) (sy_in0 5 a (sd_w0 (h0 (fun z => sd_nj (by omega) a (z.2.2.2.1 (by omega)))))))))
  · exact br_f (by decide) (br_f (by decide) (br_t rfl (br_f (by decide) (sy_in1 5 a (sd_w1 (br_f (by decide) (br_f (by decide) (br_f (by decide) (h1 ⟨fun z => absurd z (by omega), fun z => absurd z (by omega), fun z => absurd z (by omega), fun _ => a, fun z => absurd z (by omega), fun z => absurd z (by omega)⟩)))))))))
theorem sy_sf4 {post : Int32 → SY → Prop} {x2 x3 x4 : Int32} (h0 : ¬ sd_sc 4 x2 x3 → post (-1) (sc, oc, tl, tt, bt, ma, ol, tp, sb, sd, tk, dr, ay, gl, fw, fv, hv, ta, lk, go, ca, cv, cm, cg, opn, ow, oq, ox, rg, sw, sa, sz, sg, ho, kf, kk, ra, ac, ea, eb, ch, th, mv, mm, ty, bi, mk, rc, mr, md, mt, gp, yb, le, qc, qe, qq, tq, lc, gt)) (h1 : sd_sc 4 x2 x3 → wY_step_118 post (nI 4) x2 x3 x4 sc oc tl tt bt ma ol tp sb sd tk dr ay gl fw fv hv ta lk go ca cv cm cg opn ow oq ox rg sw sa sz sg ho kf kk ra ac ea eb ch th mv mm ty bi mk rc mr md mt gp yb le qc qe qq tq lc gt) : wY_step_41 post (nI 4) x2 x3 x4 sc oc tl tt bt ma ol tp sb sd tk dr ay gl fw fv hv ta lk go ca cv cm cg opn ow oq ox rg sw sa sz sg ho kf kk ra ac ea eb ch th mv mm ty bi mk rc mr md mt gp yb le qc qe qq tq lc gt := by
  rcases sd_cl 28 x2 with a | a
  · exact br_f (by decide) (br_f (by decide) (br_f (by decide) (br_f (by decide) (sy_in0 27 a (sd_w0 (h0 (fun z => sd_nj (by omega) a (z.2.2.1 (by omega)))))))))
  · rcases sd_cl 28 x3 with b | b
    · exact br_f (by decide) (br_f (by decide) (br_f (by decide) (br_f (by decide) (sy_in1 27 a (sd_w1 (br_f (by decide) (br_f (by decide) (br_t rfl (sy_field0 b (sd_w0 (h0 (fun z => sd_nj (by omega) b (z.2.2.2.2.2 (by omega))))))))))))))
    · exact br_f (by decide) (br_f (by decide) (br_f (by decide) (br_f (by decide) (sy_in1 27 a (sd_w1 (br_f (by decide) (br_f (by decide) (br_t rfl (sy_field1 b (sd_w1 (h1 ⟨fun z => absurd z (by omega), fun z => absurd z (by omega), fun _ => a, fun z => absurd z (by omega), fun z => absurd z (by omega), fun _ => b⟩)))))))))))
theorem sy_sf5 {post : Int32 → SY → Prop} {x2 x3 x4 : Int32} (h0 : ¬ sd_sc 5 x2 x3 → post (-1) (sc, oc, tl, tt, bt, ma, ol, tp, sb, sd, tk, dr, ay, gl, fw, fv, hv, ta, lk, go, ca, cv, cm, cg, opn, ow, oq, ox, rg, sw, sa, sz, sg, ho, kf, kk, ra, ac, ea, eb, ch, th, mv, mm, ty, bi, mk, rc, mr, md, mt, gp, yb, le, qc, qe, qq, tq, lc, gt)) (h1 : sd_sc 5 x2 x3 → wY_step_118 post (nI 5) x2 x3 x4 sc oc tl tt bt ma ol tp sb sd tk dr ay gl fw fv hv ta lk go ca cv cm cg opn ow oq ox rg sw sa sz sg ho kf kk ra ac ea eb ch th mv mm ty bi mk rc mr md mt gp yb le qc qe qq tq lc gt) : wY_step_41 post (nI 5) x2 x3 x4 sc oc tl tt bt ma ol tp sb sd tk dr ay gl fw fv hv ta lk go ca cv cm cg opn ow oq ox rg sw sa sz sg ho kf kk ra ac ea eb ch th mv mm ty bi mk rc mr md mt gp yb le qc qe qq tq lc gt := by
  exact br_f (by decide) (br_f (by decide) (br_f (by decide) (br_t (by decide) (br_f (by decide) (br_f (by decide) (br_f (by decide) (h1 ⟨fun z => absurd z (by omega), fun z => absurd z (by omega), fun z => absurd z (by omega), fun z => absurd z (by omega), fun z => absurd z (by omega), fun z => absurd z (by omega)⟩)))))))
theorem sy_sf {post : Int32 → SY → Prop} {n : Nat} {x2 x3 x4 : Int32} (hn : n < 6) (h0 : ¬ sd_sc n x2 x3 → post (-1) (sc, oc, tl, tt, bt, ma, ol, tp, sb, sd, tk, dr, ay, gl, fw, fv, hv, ta, lk, go, ca, cv, cm, cg, opn, ow, oq, ox, rg, sw, sa, sz, sg, ho, kf, kk, ra, ac, ea, eb, ch, th, mv, mm, ty, bi, mk, rc, mr, md, mt, gp, yb, le, qc, qe, qq, tq, lc, gt)) (h1 : sd_sc n x2 x3 → wY_step_118 post (nI n) x2 x3 x4 sc oc tl tt bt ma ol tp sb sd tk dr ay gl fw fv hv ta lk go ca cv cm cg opn ow oq ox rg sw sa sz sg ho kf kk ra ac ea eb ch th mv mm ty bi mk rc mr md mt gp yb le qc qe qq tq lc gt) : wY_step_41 post (nI n) x2 x3 x4 sc oc tl tt bt ma ol tp sb sd tk dr ay gl fw fv hv ta lk go ca cv cm cg opn ow oq ox rg sw sa sz sg ho kf kk ra ac ea eb ch th mv mm ty bi mk rc mr md mt gp yb le qc qe qq tq lc gt := by
  have : n = 0 ∨ n = 1 ∨ n = 2 ∨ n = 3 ∨ n = 4 ∨ n = 5 := by omega
  rcases this with rfl | rfl | rfl | rfl | rfl | rfl
  · exact sy_sf0 h0 h1
  · exact sy_sf1 h0 h1
  · exact sy_sf2 h0 h1
  · exact sy_sf3 h0 h1
  · exact sy_sf4 h0 h1
  · exact sy_sf5 h0 h1
theorem sd_Ps {N : Nat} (hN : N < 16) (hA : ∀ i, i < 16 → sps (i * 4) = sw i ∧ sps (i * 4 + 1) = sa i ∧ sps (i * 4 + 2) = sz i ∧ sps (i * 4 + 3) = sg i) (hB : ∀ i, i < N → sd_sp i (sw i) (sa i) (sz i) (sg i)) {w a b g : Int32} (h : sd_sp N w a b g) :
    sd_P (nI (N + 1)) (upd (upd (upd (upd sps (N * 4) w) (N * 4 + 1) a) (N * 4 + 2) b) (N * 4 + 3) g) (upd sw N w) (upd sa N a) (upd sz N b) (upd sg N g) := by
  refine ⟨N + 1, by omega, rfl, fun i hi => ?_, fun i hi => ?_⟩
  · by_cases e : i = N
    · subst e
      simp (disch := omega) only [pk_us, pk_un]
      exact ⟨trivial, trivial, trivial, trivial⟩
    · simp (disch := omega) only [pk_un]
      exact hA i hi
  · by_cases e : i = N
    · subst e
      simp only [pk_us]
      exact h
    · simp (disch := omega) only [pk_un]
      exact hB i (by omega)
theorem i_vc_step {k : Nat} {u : SX} {v : SY} (I : i_Rel k u v) (hk : k + 7 ≤ 3584) (v1 : Int32) (v2 : Int32) (v3 : Int32) (v4 : Int32) : wpX_step (fun r u' => wpY_step (fun r' v' => r' = r ∧ i_Rel (k + 7) u' v') v v1 v2 v3 v4) u v1 v2 v3 v4 := by
  refine sd_el (C := fun u v => wpX_step (fun r u' => wpY_step (fun r' v' => r' = r ∧ i_Rel (k + 7) u' v') v v1 v2 v3 v4) u v1 v2 v3 v4) I (fun sc oc bt bb da ag lo tp sb sd tk tl tt ma ol dr ay gl fw fv hv sts ops opn rg kf kk th ens mv mm sps ho pb pz rc mr md mt gp qc qq qe lc tq ta lk go ca cv cm cg ow oq ox sw sa sz sg ra ac ea eb ch ty bi mk yb le gt hF hS hO hE hP hH hT hU hG hW hQ => ?_)
  have J : i_Rel (k + 7) (sc, oc, bt, bb, da, ag, lo, tp, sb, sd, tk, fw, fv, hv, sts, ops, opn, rg, kf, kk, th, ens, mv, mm, sps, ho, pb, pz, rc, mr, md, mt, gp, qc, qq, qe, lc, tq) (sc, oc, tl, tt, bt, ma, ol, tp, sb, sd, tk, dr, ay, gl, fw, fv, hv, ta, lk, go, ca, cv, cm, cg, opn, ow, oq, ox, rg, sw, sa, sz, sg, ho, kf, kk, ra, ac, ea, eb, ch, th, mv, mm, ty, bi, mk, rc, mr, md, mt, gp, yb, le, qc, qe, qq, tq, lc, gt) := sd_mk hF hS hO hE hP hH hT hU hG hW hQ
  obtain ⟨N, hN, rfl, hA, hB⟩ := hP
  unfold wpX_step wpY_step
  refine pk_le 16 N (fun n6 => ?_) (fun n6 => ?_)
  · rcases sd_cl 6 v1 with h | h
    · exact sy_in0 5 h (sd_w0 ⟨rfl, J⟩)
    · exact sy_in1 5 h (sd_w1 (br_t ((nI_eq (a := N) (b := 16) (by omega) (by omega)).mpr (by omega)) ⟨rfl, J⟩))
  · have nn : ¬ nI N = 16 := fun y => absurd ((nI_eq (a := N) (b := 16) (by omega) (by omega)).mp y) (by omega)
    rcases sd_cl 6 v1 with h | h
    · exact sx_BR 5 h (sd_w0 (sy_in0 5 h (sd_w0 ⟨rfl, J⟩)))
    · obtain ⟨w, hw, rfl⟩ := id h
      have goal : ∀ (hg : nI w = 1 ∨ ∃ j : Nat, N < j ∧ j ≤ 16 ∧ v4 = nI j) (hs : sd_sc w v2 v3), wX_step_43 (fun r u' => wpY_step (fun r' v' => r' = r ∧ i_Rel (k + 7) u' v') ((nI N), oc, tl, tt, bt, ma, ol, tp, sb, sd, tk, dr, ay, gl, fw, fv, hv, ta, lk, go, ca, cv, cm, cg, opn, ow, oq, ox, rg, sw, sa, sz, sg, ho, kf, kk, ra, ac, ea, eb, ch, th, mv, mm, ty, bi, mk, rc, mr, md, mt, gp, yb, le, qc, qe, qq, tq, lc, gt) (nI w) v2 v3 v4) (nI w) v2 v3 v4 (nI N) oc bt bb da ag lo tp sb sd tk fw fv hv sts ops opn rg kf kk th ens mv mm sps ho pb pz rc mr md mt gp qc qq qe lc tq := by
        intro hg hs
        refine nm_r (pk_mul N 4) (sd_st (N * 4) rfl (by omega) (by decide) (sd_st (N * 4 + 1) (nI_add _ 1) (by omega) (by decide) (sd_st (N * 4 + 2) (nI_add _ 2) (by omega) (by decide) (sd_st (N * 4 + 3) (nI_add _ 3) (by omega) (by decide) (nm_r (nI_1 N) ?_)))))
        have fin : wY_step_118 (fun r' v' => r' = nI (N + 1) - 1 ∧ i_Rel (k + 7) ((nI (N + 1)), oc, bt, bb, da, ag, lo, tp, sb, sd, tk, fw, fv, hv, sts, ops, opn, rg, kf, kk, th, ens, mv, mm, (upd (upd (upd (upd sps (N * 4) (nI w)) (N * 4 + 1) v2) (N * 4 + 2) v3) (N * 4 + 3) v4), ho, pb, pz, rc, mr, md, mt, gp, qc, qq, qe, lc, tq) v') (nI w) v2 v3 v4 (nI N) oc tl tt bt ma ol tp sb sd tk dr ay gl fw fv hv ta lk go ca cv cm cg opn ow oq ox rg sw sa sz sg ho kf kk ra ac ea eb ch th mv mm ty bi mk rc mr md mt gp yb le qc qe qq tq lc gt := by
          refine sd_st N rfl n6 (by decide) (sd_st N rfl n6 (by decide) (sd_st N rfl n6 (by decide) (sd_st N rfl n6 (by decide) (nm_r (nI_1 N) ⟨(nI_pred N).symm, sd_mk hF hS hO hE (sd_Ps n6 hA hB ⟨w, by omega, rfl, hs.1, hs.2.1, hs.2.2.1, hs.2.2.2.1, hs.2.2.2.2.2, fun w1 => ?_⟩) hH hT hU hG hW hQ⟩))))
          rcases hg with hg | hg
          · exact absurd ((nI_eq (a := w) (b := 1) (by omega) (by omega)).mp hg) w1
          · exact hg
        unfold wpY_step
        refine sy_in1 5 h (sd_w1 (br_f nn (br_c (fun y => sy_sf hw (fun z => absurd hs z) (fun _ => fin)) (fun y => ?_))))
        rcases hg with hg | ⟨j, j1, j2, rfl⟩
        · exact absurd hg y
        · have e1 : nI N + 1 = nI (N + 1) := nI_1 N
          rw [e1]
          exact br_f (nI_nlt (by omega) (by omega)) (br_f (nI_nlt (a := 16) (by omega) (by omega)) (sd_w1 (sy_sf hw (fun z => absurd hs z) (fun _ => fin))))
      have no : ∀ (hg : (¬ nI w = 1 ∧ (v4 ≤ nI N ∨ ¬ v4 ≤ 16)) ∨ ¬ sd_sc w v2 v3), wpY_step (fun r' v' => r' = -1 ∧ i_Rel (k + 7) ((nI N), oc, bt, bb, da, ag, lo, tp, sb, sd, tk, fw, fv, hv, sts, ops, opn, rg, kf, kk, th, ens, mv, mm, sps, ho, pb, pz, rc, mr, md, mt, gp, qc, qq, qe, lc, tq) v') ((nI N), oc, tl, tt, bt, ma, ol, tp, sb, sd, tk, dr, ay, gl, fw, fv, hv, ta, lk, go, ca, cv, cm, cg, opn, ow, oq, ox, rg, sw, sa, sz, sg, ho, kf, kk, ra, ac, ea, eb, ch, th, mv, mm, ty, bi, mk, rc, mr, md, mt, gp, yb, le, qc, qe, qq, tq, lc, gt) (nI w) v2 v3 v4 := by
        intro hg
        unfold wpY_step
        refine sy_in1 5 h (sd_w1 (br_f nn (br_c (fun y => ?_) (fun y => ?_))))
        · exact sy_sf hw (fun _ => ⟨rfl, J⟩) (fun z => absurd hg (by rintro (hg | hg); exact hg.1 y; exact hg z))
        · have e1 : nI N + 1 = nI (N + 1) := nI_1 N
          rw [e1]
          refine br_c (fun _ => sd_w0 ⟨rfl, J⟩) (fun y1 => br_c (fun _ => sd_w0 ⟨rfl, J⟩) (fun y2 => sd_w1 (sy_sf hw (fun _ => ⟨rfl, J⟩) (fun z => absurd hg ?_))))
          rintro (⟨_, hg | hg⟩ | hg)
          · apply y1
            rw [sd_leI, nI_toInt (by omega)] at hg
            rw [sd_ltI, nI_toInt (by omega)]
            omega
          · exact y2 (Int32.not_le.mp hg)
          · exact hg z
      refine sx_sf hw (fun z => sd_w0 (no (Or.inr z))) (fun z => sd_w1 (br_c (fun y => goal (Or.inl y) z) (fun y => br_c (fun y1 => no (Or.inl ⟨y, Or.inl y1⟩)) (fun y1 => br_c (fun y2 => goal (Or.inr ?_) z) (fun y2 => no (Or.inl ⟨y, Or.inr y2⟩))))))
      have y0 : ¬ v4 < 0 := by
        intro q
        apply y1
        rw [sd_ltI] at q
        rw [sd_leI, nI_toInt (by omega)]
        have e0 : (0 : Int32).toInt = 0 := by decide
        omega
      obtain ⟨j, hj, rfl⟩ := nI_of y0
      have y2' : nI j ≤ nI 16 := y2
      rw [nI_leI hj (by omega)] at y1 y2'
      exact ⟨j, by omega, y2', rfl⟩
end
