/-! LAW GLUE (4): a kind that fails: one run with what is known of its numbers -/
theorem gq_wf : pt_wf gq_E.1 lx_h = true := by decide +kernel
noncomputable def gq_frow (w : Nat) (rd : List (Int × ai_X)) (cp : List (Nat × Int × Int)) (le : List (ai_X × ai_X)) (C : List Nat) (Pf : List (Nat × Nat × Nat)) : Bool := match lx_run [] [23] 16 rd false 40 lx_L [.inl (0, .ofNat w)] (pt_G gq_E lx_h (0, 0, 0) [] cp le) with
  | some fs => fs.all (gq_c3 C Pf)
  | none => false
section GQF
variable {p : Program} {l : Launch} {e : Env} {R : Room} {s : State} {m : MethodId} {args : Array Value} {below : List Frame} {meth : Method} {c : Code} {Q : State → Prop}
variable {D : va_G} {tyc : Nat → ClassId} {A : Nat → Prop} {sa : ai_B} {ws : va_W} {b Ln z0 v k w : Nat} {xs : Nat → Int32}
variable {r r4 : Nat → Int} {ad : Nat → Nat} {H : Heap} {locs : List Loc} {ls : Array Slot} {st : List Value}
theorem gq_fail {C : List Nat} {Pf : List (Nat × Nat × Nat)} {rd : List (Int × ai_X)} {cp : List (Nat × Int × Int)} {le : List (ai_X × ai_X)} (F : lx_Fr p R s m args meth c D tyc A sa) (hl : l.stackTraces = false) (hRf : 111 ≤ R.frames) (hRl : 8000 ≤ R.locals) (hsa : (z0, b, Ln, xs) ∈ sa.2) (hV : lx_V tyc ws r) (hvk : v ≤ k) (hk4 : k ≤ 4) (hE : ai_gE r (lx_El v 1)) (x4 : ai_ext 382 r r4) (hR : ai_Rel D tyc A s sa ws 7 r4 ad lx_L [.inl (0, .ofNat w)] (gq_E, lx_h, 0, 0) H locs ls st) (hi : 0 ≤ r 1 ∧ r 1 + 10 ≤ (Ln : Int)) (h110 : r 73 = (k : Int)) (had : ad 0 = b)
    (kn : lx_Kn p l e R s m args below meth c Q D tyc A sa b (r 1)) (hPf : lx_pc Pf = true) (hrd : ∀ q ∈ rd, ai_vx r4 q.2 = (xs (r 1 + q.1).toNat).toInt) (hck : (rd.all (fun q => Nat.blt q.2.1 393) && (cp.all (fun q => Nat.blt q.1 393) && le.all (fun q => Nat.blt q.1.1 393 && Nat.blt q.2.1 393))) = true) (hrow : gq_frow w rd cp le C Pf = true) (ha : pt_asm r4 [] cp le) : W p l e R s m args below meth c H locs 0 0 Q (F0 m 40 ls st) := by
  simp only [Bool.and_eq_true] at hck
  obtain ⟨h1, h2, h3⟩ := hck
  obtain ⟨R2, n2, n3, n4⟩ := pt_G_ok (k := (0, 0, 0)) (sp := []) gq_wf h2 h3 ha hR
  have e1 : r4 1 = r 1 := x4 1 (by omega)
  have n2 : (pt_G gq_E lx_h (0, 0, 0) [] cp le).1.1 = 393 := n2
  unfold gq_frow at hrow
  split at hrow
  case h_2 => cases hrow
  rename_i fs hrun
  have res := lx_ok (k0 := 60) (T := []) (G := pt_G gq_E lx_h (0, 0, 0) [] cp le) (e := e) (below := below) (Q := Q) F hl trivial (by omega) (by omega) hV.1.pw hsa 16 rd false 40 lx_L _ fs r4 ad H locs ls st hrun R2 (by rw [n2]; omega) (by rw [n3]; omega) (by rw [e1]; exact hi) had (by rw [e1]; exact hrd) (fun q hq => by rw [n2]; exact Nat.le_of_ble_eq_true (List.all_eq_true.mp h1 q hq)) (fun f hf r8 ad8 n1' n2' n3' n4' H8 locs8 ls8 st8 hR8 => ?_)
  · rw [n4] at res
    exact res
  rw [n2] at n1'
  rw [n3] at n2'
  obtain ⟨e1', e2, e3, rE, hRE, w1, w2, wJ⟩ := lx_fullJ hE hV.2 (by omega) hPf (List.all_eq_true.mp hrow f hf) (fun t ht => (n1' t (by omega)).trans (x4 t ht)) hR8
  rw [e1']
  exact kn v k ws rE ad8 H8 locs8 ls8 st8 _ _ hvk hk4 e2 e3 ⟨hV.1.k wJ.2, wJ.1⟩ hRE (by rw [w1, n1' 1 (by omega), e1]) (by rw [w2, n1' 73 (by omega), x4 _ (by omega), h110, Int.add_zero]) ((n2' 0 (by omega)).trans had)
end GQF
noncomputable def gq_row (w pc1 m1 : Nat) (kd1 : Bool) (Y1 : pt_Y) (S1 bb1 : List ai_V) (AL1 : List (Nat × ai_X)) (x1 : ai_X) (b1 : Nat × Nat) (pc2 m2 : Nat) (kd2 : Bool) (Y2 : pt_Y) (S2 bb2 : List ai_V) (AL2 : List (Nat × ai_X)) (b2 : Nat × Nat) (x2 : ai_X) (sp3 : List (Nat × Int)) (hF : ai_H) (C : List Nat) (Pf : List (Nat × Nat × Nat)) : Bool := match lx_run [] [pc1] 16 gq_rd false 40 lx_L [.inl (0, .ofNat w)] (gq_E, lx_h, 0, 0) with
  | some fs => fs.all (gq_c1 pc1 m1 kd1 Y1 S1 bb1 AL1 x1 b1 pc2 (gq_c2 pc2 m2 kd2 Y2 S2 bb2 AL2 b1 x2 (gq_sps sp3 (gq_E, hF, b1.1 + b2.1, b1.2 + b2.2)) C Pf))
  | none => false
theorem gq_row_of {w pc1 m1 : Nat} {kd1 : Bool} {Y1 : pt_Y} {S1 bb1 : List ai_V} {AL1 : List (Nat × ai_X)} {x1 : ai_X} {b1 : Nat × Nat} {pc2 m2 : Nat} {kd2 : Bool} {Y2 : pt_Y} {S2 bb2 : List ai_V} {AL2 : List (Nat × ai_X)} {b2 : Nat × Nat} {x2 : ai_X} {sp3 : List (Nat × Int)} {hF : ai_H} {C : List Nat} {Pf : List (Nat × Nat × Nat)} (h : gq_row w pc1 m1 kd1 Y1 S1 bb1 AL1 x1 b1 pc2 m2 kd2 Y2 S2 bb2 AL2 b2 x2 sp3 hF C Pf = true) : (match lx_run [] [pc1] 16 gq_rd false 40 lx_L [.inl (0, .ofNat w)] (gq_E, lx_h, 0, 0) with
  | some fs => fs.all (gq_c1 pc1 m1 kd1 Y1 S1 bb1 AL1 x1 b1 pc2 (gq_c2 pc2 m2 kd2 Y2 S2 bb2 AL2 b1 x2 (gq_sps sp3 (gq_E, hF, b1.1 + b2.1, b1.2 + b2.2)) C Pf))
  | none => false) = true := by
  unfold gq_row at h
  exact h
