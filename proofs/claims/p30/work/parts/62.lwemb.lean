/-! THE LAW: the parser's world within the law's, and back -/
/-- the reference's numbers that the class has too: none of them is changed by offer -/
noncomputable def lx_kl : List Nat := [2, 3, 4, 5, 18, 19, 20, 41]
theorem lx_klok : lx_kl.all (fun x => (Nat.ble 1 x && Nat.blt x 44) && (!(pz_tc x) && (!(Nat.beq x 1) && (!(Nat.beq x 6) && (!(Nat.beq x 8) && !(Nat.beq x 16)))))) = true := by decide +kernel
noncomputable def lx_kp (t : Nat) : Bool := lx_kl.any (fun x => Nat.beq t (x + 71))
theorem lx_kp_ok {t : Nat} (h : lx_kp t = true) : ∃ x, x ∈ lx_kl ∧ t = x + 71 ∧ 1 ≤ x ∧ x < 44 := by
  obtain ⟨x, hx, h⟩ := List.any_eq_true.mp h
  have g := List.all_eq_true.mp lx_klok x hx
  simp only [Bool.and_eq_true] at g
  exact ⟨x, hx, Nat.eq_of_beq_eq_true h, Nat.le_of_ble_eq_true g.1.1, Nat.le_of_ble_eq_true g.1.2⟩
theorem lx_kl_fx {rp rq : Nat → Int} (hf : of_fx rp rq) {x : Nat} (hx : x ∈ lx_kl) : rq x = rp x := by
  have g := List.all_eq_true.mp lx_klok x hx
  simp only [Bool.and_eq_true, Bool.not_eq_true'] at g
  obtain ⟨⟨g1, g2⟩, g3, g4, g5, g6, g7⟩ := g
  exact hf x (Nat.le_of_ble_eq_true g1) (Nat.le_of_ble_eq_true g2) g3 (Nat.ne_of_beq_eq_false g4) (Nat.ne_of_beq_eq_false g5) (Nat.ne_of_beq_eq_false g6) (Nat.ne_of_beq_eq_false g7)
noncomputable def lx_un (t : Nat) : Bool := lx_kp t || (!(Nat.ble 72 t && Nat.ble t 114) && !(Nat.beq t 392))
noncomputable def lx_up (r r' : Nat → Int) (i : Int) (t : Nat) : Int := if 72 ≤ t ∧ t < 115 then r' (t - 71) else if t = 392 then i else r t
theorem lx_up_un {r r' : Nat → Int} {i : Int} (hk : ∀ t, lx_kp t = true → r' (t - 71) = r t) {t : Nat} (h : lx_un t = true) : lx_up r r' i t = r t := by
  unfold lx_un at h
  rw [Bool.or_eq_true] at h
  rcases h with h | h
  · obtain ⟨x, hx, e, x1, x2⟩ := lx_kp_ok h
    unfold lx_up
    rw [if_pos ⟨by omega, by omega⟩]
    exact hk t h
  · rw [Bool.and_eq_true, Bool.not_eq_true', Bool.not_eq_true'] at h
    have h2 : t ≠ 392 := fun q => by
      subst q
      cases h.2
    have h1 : ¬ (72 ≤ t ∧ t < 115) := fun q => by
      have a := h.1
      have a1 : Nat.ble 72 t = true := Nat.ble_eq_true_of_le q.1
      have a2 : Nat.ble t 114 = true := Nat.ble_eq_true_of_le (by omega)
      rw [a1, a2] at a
      cases a
    unfold lx_up
    rw [if_neg h1, if_neg h2]
theorem lx_up_in {r r' : Nat → Int} {i : Int} {t : Nat} (h1 : 1 ≤ t) (h2 : t < 44) : lx_up r r' i (t + 71) = r' t := by
  unfold lx_up
  rw [if_pos ⟨by omega, by omega⟩]
  rfl
theorem lx_up_158 {r r' : Nat → Int} {i : Int} : lx_up r r' i 392 = i := by
  unfold lx_up
  rw [if_neg (by omega), if_pos rfl]
noncomputable def lx_uv (a : ai_V) : Bool := match a with
  | .inl x => lx_un x.1
  | .inr (.inl x) => lx_un x.1
  | _ => true
noncomputable def lx_uc (c : ai_C) : Bool := match c with
  | .inl (_, fs) => fs.all lx_uv
  | .inr (.inl (_, _, _, _, l)) => l.all (fun q => lx_un q.1.1 && lx_un q.2.1)
  | _ => true
section UP
variable {tyc : Nat → ClassId} {r r2 : Nat → Int} {ad : Nat → Nat} {N n : Nat} (hu : ∀ t, lx_un t = true → r2 t = r t)
theorem lx_uvx (hu : ∀ t, lx_un t = true → r2 t = r t) {x : ai_X} (h : lx_un x.1 = true) : ai_vx r2 x = ai_vx r x := by
  unfold ai_vx
  rw [hu _ h]
theorem lx_ugV (hu : ∀ t, lx_un t = true → r2 t = r t) {a : ai_V} {v : Value} (h : lx_uv a = true) (g : ai_gV r ad N n a v) : ai_gV r2 ad N n a v := by
  rcases a with x | x | _ | _ | q
  · obtain ⟨g1, i, g2, g3⟩ := g
    exact ⟨g1, i, g2, g3.trans (lx_uvx hu h).symm⟩
  · obtain ⟨g1, i, g2, g3⟩ := g
    exact ⟨g1, i, g2, g3.trans (lx_uvx hu h).symm⟩
  · trivial
  · exact g
  · exact g
theorem lx_ugF (hu : ∀ t, lx_un t = true → r2 t = r t) : ∀ {l : List ai_V} {m : List Value}, l.all lx_uv = true → ai_gF r ad N n l m → ai_gF r2 ad N n l m
  | [], [], _, _ => trivial
  | [], _ :: _, _, g => g.elim
  | _ :: _, [], _, g => g.elim
  | a :: l, v :: m, h, g => by
    rw [List.all_cons, Bool.and_eq_true] at h
    exact ⟨lx_ugV hu h.1 g.1, lx_ugF hu h.2 g.2⟩
theorem lx_uov (hu : ∀ t, lx_un t = true → r2 t = r t) {lo hi v : Int} {j : Nat} : ∀ {l : List (ai_X × ai_X)}, l.all (fun q => lx_un q.1.1 && lx_un q.2.1) = true → ai_ov r lo hi l j v → ai_ov r2 lo hi l j v
  | [], _, g => g
  | (i, x) :: l, h, g => by
    rw [List.all_cons, Bool.and_eq_true, Bool.and_eq_true] at h
    have e1 : ai_vx r2 i = ai_vx r i := lx_uvx hu h.1.1
    have e2 : ai_vx r2 x = ai_vx r x := lx_uvx hu h.1.2
    refine ⟨fun q => ?_, fun q => lx_uov hu h.2 (g.2 (fun z => q (e1.trans z)))⟩
    rw [e2]
    exact g.1 (e1.symm.trans q)
theorem lx_ugC (hu : ∀ t, lx_un t = true → r2 t = r t) {c : ai_C} {e : va_E} (h : lx_uc c = true) (g : ai_gC tyc r ad N n c e) : ai_gC tyc r2 ad N n c e := by
  rcases c with ⟨ci, fs⟩ | ⟨ty, m, lo, hi, l⟩ | ⟨ty, l⟩
  · obtain ⟨vs, g1, g2⟩ := g
    exact ⟨vs, g1, lx_ugF hu h g2⟩
  · rcases g with ⟨g1, f, g2, g3⟩ | ⟨g1, f, g2, g3⟩
    · exact Or.inl ⟨g1, f, g2, g3.1, fun j hj => lx_uov hu h (g3.2 j hj)⟩
    · exact Or.inr ⟨g1, f, g2, g3.1, fun j hj => lx_uov hu h (g3.2 j hj)⟩
  · exact g
end UP
/-! the model's fields, told in two ways -/
noncomputable def lx_pt (a b : ai_V) : Bool := match a, b with
  | .inl x, .inl y => Nat.beq x.1 (y.1 + 71) && (ai_eq x.2 y.2 && (Nat.ble 1 y.1 && Nat.blt y.1 44))
  | .inr (.inr x), .inr (.inr y) => decide (x = y)
  | _, _ => false
noncomputable def lx_pts : List ai_V → List ai_V → Bool
  | [], [] => true
  | a :: l, b :: m => lx_pt a b && lx_pts l m
  | _, _ => false
section PT
variable {rl rp : Nat → Int} {ad : Nat → Nat} {N n : Nat}
theorem lx_pt_ok (hr : ∀ t, 1 ≤ t → t < 44 → rp t = rl (t + 71)) (hN : 115 ≤ N) {a b : ai_V} {v : Value} (h : lx_pt a b = true) : ai_gV rl ad N n a v ↔ ai_gV rp ad 44 n b v := by
  unfold lx_pt at h
  split at h
  · rename_i x y
    simp only [Bool.and_eq_true] at h
    obtain ⟨h1, h2, h3, h4⟩ := h
    have h1 := Nat.eq_of_beq_eq_true h1
    have h2 := ai_eq_iff.mp h2
    have h3 := Nat.le_of_ble_eq_true h3
    have h4 : y.1 < 44 := Nat.le_of_ble_eq_true h4
    have e : ai_vx rl x = ai_vx rp y := by
      unfold ai_vx
      rw [hr _ h3 h4, h1, h2]
    refine ⟨fun ⟨g1, i, g2, g3⟩ => ⟨h4, i, g2, g3.trans e⟩, fun ⟨g1, i, g2, g3⟩ => ⟨by omega, i, g2, g3.trans e.symm⟩⟩
  · rename_i x y
    have h : x = y := of_decide_eq_true h
    subst h
    cases x with
    | none => exact Iff.rfl
    | some o => cases o with
      | none => exact Iff.rfl
      | some q => exact Iff.rfl
  · cases h
theorem lx_pts_ok (hr : ∀ t, 1 ≤ t → t < 44 → rp t = rl (t + 71)) (hN : 115 ≤ N) : ∀ {l m : List ai_V} {vs : List Value}, lx_pts l m = true → (ai_gF rl ad N n l vs ↔ ai_gF rp ad 44 n m vs)
  | [], [], _, _ => by
    rename_i vs _
    cases vs with
    | nil => exact Iff.rfl
    | cons _ _ => exact Iff.rfl
  | [], _ :: _, _, h => by cases h
  | _ :: _, [], _, h => by cases h
  | a :: l, b :: m, [], h => Iff.rfl
  | a :: l, b :: m, v :: vs, h => by
    unfold lx_pts at h
    rw [Bool.and_eq_true] at h
    exact and_congr (lx_pt_ok hr hN h.1) (lx_pts_ok hr hN h.2)
end PT
noncomputable def lx_bin (a b : Int × Int) : Bool := ai_le b.1 a.1 && ai_le a.2 b.2
noncomputable def lx_bd (v : Nat) : Bool := (lx_El v 2).2.1.all (fun q => (lx_un q.1 || (Nat.beq q.1 392 && lx_bin rn_b q.2)) || pz_E.2.1.any (fun z => Nat.beq q.1 (z.1 + 71) && (Nat.ble 1 z.1 && (Nat.blt z.1 44 && lx_bin z.2 q.2)))) && pz_E.2.1.all (fun z => Nat.ble 1 z.1 && (Nat.blt z.1 44 && (lx_El v 2).2.1.any (fun q => Nat.beq q.1 (z.1 + 71) && lx_bin q.2 z.2)))
theorem lx_bd0 : lx_bd 0 = true := by decide +kernel
theorem lx_bd1 : lx_bd 1 = true := by decide +kernel
theorem lx_bd2 : lx_bd 2 = true := by decide +kernel
theorem lx_bd3 : lx_bd 3 = true := by decide +kernel
theorem lx_bd4 : lx_bd 4 = true := by decide +kernel
theorem lx_bdv : ∀ v, lx_bd v = true := fun v => match v with
  | 0 => lx_bd0
  | 1 => lx_bd1
  | 2 => lx_bd2
  | 3 => lx_bd3
  | _ + 4 => lx_bd4
noncomputable def lx_ck1 : Bool := (List.range 336).all (fun q => Nat.beq q 264 || (match ai_cell lx_h q with | some c => lx_uc c | none => true)) && ((List.range 336).all (fun q => Nat.beq q 264 || (Nat.beq q 265 || (Nat.beq q 285 || (ai_cell pz_h q).isNone))) && ((List.range 16).all (fun q => (ai_cell lx_h q).isNone) && ((ai_cell lx_h 286).isNone && ((ai_cell lx_h 288).isNone && ((ai_cell lx_h 289).isNone && (ai_cell lx_h 290).isNone)))))
theorem lx_c1 : lx_ck1 = true := by decide +kernel
noncomputable def lx_ck2 : Bool := (match ai_cell lx_h 264, ai_cell pz_h 264 with | some (.inl (ci, l)), some (.inl (cj, m)) => Nat.beq ci cj && lx_pts l m | _, _ => false) && ((match ai_cell lx_h 265, ai_cell pz_h 265 with | some (.inr (.inr (ty, l))), some (.inr (.inr (tz, m))) => Nat.beq ty tz && decide (l = m) | _, _ => false) && ((match ai_cell lx_h 285, ai_cell pz_h 285 with | some (.inr (.inl (ty, n, lo, hi, []))), some (.inr (.inl (tz, k, lo', hi', []))) => Nat.beq ty tz && (Nat.beq n k && (ai_eq lo lo' && ai_eq hi hi')) | _, _ => false) && ((match ai_cell lx_h 287 with | some (.inr (.inl (ty, n, lo, hi, []))) => Nat.beq ty 0 && (Nat.beq n 40 && (ai_eq lo ai_lo32 && ai_eq hi ai_hi32)) | _ => false) && (match ai_cell lx_h 293 with | some (.inr (.inl (ty, n, lo, hi, []))) => Nat.beq ty 2 && (Nat.beq n 4 && (ai_eq lo 0 && ai_eq hi 1)) | _ => false))))
theorem lx_c2 : lx_ck2 = true := by decide +kernel
theorem lx_c2' : (∃ ci l m, ai_cell lx_h 264 = some (.inl (ci, l)) ∧ ai_cell pz_h 264 = some (.inl (ci, m)) ∧ lx_pts l m = true) ∧ (∃ ty l, ai_cell lx_h 265 = some (.inr (.inr (ty, l))) ∧ ai_cell pz_h 265 = some (.inr (.inr (ty, l)))) ∧ (∃ ty n lo hi, ai_cell lx_h 285 = some (.inr (.inl (ty, n, lo, hi, []))) ∧ ai_cell pz_h 285 = some (.inr (.inl (ty, n, lo, hi, [])))) ∧ ai_cell lx_h 287 = some (.inr (.inl (0, 40, ai_lo32, ai_hi32, []))) ∧ ai_cell lx_h 293 = some (.inr (.inl (2, 4, 0, 1, []))) := by
  have h := lx_c2
  unfold lx_ck2 at h
  simp only [Bool.and_eq_true] at h
  obtain ⟨h1, h2, h3, h4, h5⟩ := h
  refine ⟨?_, ?_, ?_, ?_, ?_⟩
  · split at h1
    · rename_i ci l cj m e1 e2
      rw [Bool.and_eq_true] at h1
      have := Nat.eq_of_beq_eq_true h1.1
      subst this
      exact ⟨ci, l, m, e1, e2, h1.2⟩
    · cases h1
  · split at h2
    · rename_i ty l tz m e1 e2
      rw [Bool.and_eq_true] at h2
      have := Nat.eq_of_beq_eq_true h2.1
      subst this
      have := of_decide_eq_true h2.2
      subst this
      exact ⟨ty, l, e1, e2⟩
    · cases h2
  · split at h3
    · rename_i ty n lo hi tz k lo' hi' e1 e2
      simp only [Bool.and_eq_true] at h3
      obtain ⟨a1, a2, a3, a4⟩ := h3
      have a1 := Nat.eq_of_beq_eq_true a1
      have a2 := Nat.eq_of_beq_eq_true a2
      have a3 := ai_eq_iff.mp a3
      have a4 := ai_eq_iff.mp a4
      subst a1 a2 a3 a4
      exact ⟨ty, n, lo, hi, e1, e2⟩
    · cases h3
  · split at h4
    · rename_i ty n lo hi e1
      simp only [Bool.and_eq_true] at h4
      obtain ⟨a1, a2, a3, a4⟩ := h4
      rw [e1, Nat.eq_of_beq_eq_true a1, Nat.eq_of_beq_eq_true a2, ai_eq_iff.mp a3, ai_eq_iff.mp a4]
    · cases h4
  · split at h5
    · rename_i ty n lo hi e1
      simp only [Bool.and_eq_true] at h5
      obtain ⟨a1, a2, a3, a4⟩ := h5
      rw [e1, Nat.eq_of_beq_eq_true a1, Nat.eq_of_beq_eq_true a2, ai_eq_iff.mp a3, ai_eq_iff.mp a4]
    · cases h5
theorem lx_c1' : (∀ q, q < 336 → q ≠ 264 → ∀ c, ai_cell lx_h q = some c → lx_uc c = true) ∧ (∀ q, q < 336 → q ≠ 264 → q ≠ 265 → q ≠ 285 → ai_cell pz_h q = none) ∧ (∀ q, q < 16 → ai_cell lx_h q = none) ∧ (ai_cell lx_h 286 = none ∧ ai_cell lx_h 288 = none ∧ ai_cell lx_h 289 = none ∧ ai_cell lx_h 290 = none) := by
  have h := lx_c1
  unfold lx_ck1 at h
  simp only [Bool.and_eq_true, Option.isNone_iff_eq_none] at h
  obtain ⟨h1, h2, h3, h4, h5, h6, h7⟩ := h
  have nb : ∀ {q k : Nat}, q ≠ k → Nat.beq q k = false := fun {q k} z => by
    cases e : Nat.beq q k with
    | false => rfl
    | true => exact absurd (Nat.eq_of_beq_eq_true e) z
  refine ⟨fun q hq n4 c hc => ?_, fun q hq n4 n5 n6 => ?_, fun q hq => ?_, h4, h5, h6, h7⟩
  · have := List.all_eq_true.mp h1 q (List.mem_range.mpr hq)
    rw [nb n4, Bool.false_or, hc] at this
    exact this
  · have := List.all_eq_true.mp h2 q (List.mem_range.mpr hq)
    rw [nb n4, nb n5, nb n6, Bool.false_or, Bool.false_or, Bool.false_or] at this
    exact Option.isNone_iff_eq_none.mp this
  · exact Option.isNone_iff_eq_none.mp (List.all_eq_true.mp h3 q (List.mem_range.mpr hq))
section EM
variable {D : va_G} {tyc : Nat → ClassId} {A : Nat → Prop} {sa : ai_B} {ws : va_W} {v : Nat} {r : Nat → Int} {ad : Nat → Nat} {H : Heap}
set_option maxHeartbeats 2000000 in
theorem lx_emb (hWd : ai_Wd D tyc A sa ws r ad (lx_G v 2) H) (hV : cl_V tyc ws) : ∃ (wsF : va_W) (rp : Nat → Int) (f1 f2 f3 g fb : Nat → Int32), cl_W tyc wsF f1 f2 f3 g ∧ hg_za tyc wsF 293 4 fb ∧ of_B fb ∧ ai_Wd D tyc A sa wsF rp ad (pz_E, pz_h, 0, 0) H ∧ (∀ t, 1 ≤ t → t < 44 → rp t = r (t + 71)) ∧
    ∀ (ws' : va_W) (rp' : Nat → Int) (H' : Heap) (f1' f2' f3' g' fb' : Nat → Int32) (i : Int32), of_sm wsF ws' → cl_W tyc ws' f1' f2' f3' g' → hg_za tyc ws' 293 4 fb' → of_B fb' → ai_Wd D tyc A sa ws' rp' ad (pz_E, pz_h, 0, 0) H' → of_fx rp rp' → ∃ (ws2 : va_W) (r2 : Nat → Int), cl_V tyc ws2 ∧ ai_Wd D tyc A sa ws2 r2 ad (lx_G v 2) H' ∧ (∀ t, lx_un t = true → r2 t = r t) ∧ (∀ t, 1 ≤ t → t < 44 → r2 (t + 71) = rp' t) ∧ r2 392 = i.toInt := by
  obtain ⟨N1, N2, N3, N4, N5⟩ := pz_N
  obtain ⟨⟨ci, l4, m4, m1, m2, m3⟩, ⟨ty5, l5, m5, m6⟩, ⟨ty8, n8, lo8, hi8, m7, m8⟩, m9, m10⟩ := lx_c2'
  obtain ⟨u1, u2, u3, u4, u5, u6, u7⟩ := lx_c1'
  have hN : (lx_G v 2).1.1 = 394 := lx_N v 2
  have hbd := lx_bdv v
  unfold lx_bd at hbd
  rw [Bool.and_eq_true] at hbd
  have hnd : (lx_El v 2).2.2 = [] := by
    rw [(lx_El_eq v 2).1]
    rfl
  obtain ⟨ws1, hP, hD, hE, hH, hO, hsa⟩ := hWd
  have hE : ai_gE r (lx_El v 2) := hE
  have hH : ai_gH tyc r ad (lx_El v 2).1 ws lx_h ws1 := hH
  have hN' : (lx_El v 2).1 = 394 := hN
  obtain ⟨f1, f2, f3, g, v1, v2, v3, v4, v5⟩ := hV
  have nn : ∀ k, k + 16 < 336 → ai_cell lx_h (k + 16) = none → ws1[k]? = ws[k]? := fun k h1 h2 => hH.2.2.2 k h1 h2
  obtain ⟨e7, w7, g7⟩ := hH.2.2.1 271 (by show 287 < 336; omega) _ m9
  obtain ⟨e3, w3, g3⟩ := hH.2.2.1 277 (by show 293 < 336; omega) _ m10
  have gi : ∃ fi, hg_ia tyc ws1 287 40 fi := by
    rcases g7 with ⟨z, -⟩ | ⟨-, f, rfl, -⟩
    · cases z
    · exact ⟨f, _, w7⟩
  have gb : ∃ fb, hg_za tyc ws1 293 4 fb ∧ of_B fb := by
    rcases g3 with ⟨z, -⟩ | ⟨-, f, rfl, -, hz⟩
    · cases z
    · exact ⟨f, ⟨_, w3⟩, fun j hj => hz j hj⟩
  obtain ⟨fi, hfi⟩ := gi
  obtain ⟨fb, hfb, hB⟩ := gb
  have hC : cl_W tyc ws1 f1 f2 f3 g := ⟨v1.cg (nn 270 (by omega) u4), v2.cg (nn 272 (by omega) u5), v3.cg (nn 273 (by omega) u6), v4.cg (nn 274 (by omega) u7), v5, fi, hfi⟩
  have hrp : ∀ t, 1 ≤ t → t < 44 → (fun t => if t = 0 then (0 : Int) else r (t + 71)) t = r (t + 71) := fun t h1 h2 => if_neg (by omega)
  have hEp : ai_gE (fun t => if t = 0 then (0 : Int) else r (t + 71)) pz_E := by
    refine ⟨if_pos rfl, by rw [N1]; omega, fun t ht => ?_, fun q hq => ?_, fun q hq => by rw [N2] at hq; cases hq⟩
    · rw [N1] at ht
      by_cases q : t = 0
      · subst q
        exact ⟨by show ai_lo64 ≤ (0 : Int); unfold ai_lo64; omega, by show (0 : Int) ≤ ai_hi64; unfold ai_hi64; omega⟩
      · rw [hrp t (by omega) ht]
        exact hE.2.2.1 (t + 71) (by rw [hN']; omega)
    · have h := List.all_eq_true.mp hbd.2 q hq
      simp only [Bool.and_eq_true] at h
      obtain ⟨h1, h2, h3⟩ := h
      have h1 := Nat.le_of_ble_eq_true h1
      have h2 : q.1 < 44 := Nat.le_of_ble_eq_true h2
      obtain ⟨z, hz, h3⟩ := List.any_eq_true.mp h3
      unfold lx_bin at h3
      simp only [Bool.and_eq_true] at h3
      have e := Nat.eq_of_beq_eq_true h3.1
      have b := (hE.2.2.2.1 z hz).2
      rw [e] at b
      have b1 := ai_le_iff.mp h3.2.1
      have b2 := ai_le_iff.mp h3.2.2
      rw [hrp q.1 h1 h2]
      exact ⟨by rw [N1]; exact h2, by omega, by omega⟩
  refine ⟨ws1, _, f1, f2, f3, g, fb, hC, hfb, hB, ⟨ws1, hP, hD, hEp, ⟨by rw [show ((pz_E, pz_h, 0, 0) : ai_G).2.1.1 = 336 from N4]; exact hH.1, hH.2.1, fun k hk c hc => ?_, fun k hk hc => rfl⟩, fun q hq c hc => ?_, hsa⟩, hrp, fun ws' rp' H' f1' f2' f3' g' fb' i a1 a2 a3 a4 a5 a6 => ?_⟩
  · have hk : k + 16 < pz_h.1 := hk
    rw [N4] at hk
    show ∃ e, ws1[k]? = some (ad (k + 16), e) ∧ ai_gC tyc _ ad pz_E.1 pz_h.1 c e
    rw [N1, N4]
    have hc : ai_cell pz_h (k + 16) = some c := hc
    by_cases q4 : k + 16 = 264
    · obtain ⟨e, w, vs, h1, h2⟩ := hH.2.2.1 k hk (.inl (ci, l4)) (by rw [q4]; exact m1)
      rw [q4, m2] at hc
      cases hc
      rw [hN'] at h2
      exact ⟨e, w, vs, h1, (lx_pts_ok hrp (by omega) m3).mp h2⟩
    · by_cases q5 : k + 16 = 265
      · obtain ⟨e, w, h1⟩ := hH.2.2.1 k hk _ (by rw [q5]; exact m5)
        rw [q5, m6] at hc
        cases hc
        exact ⟨e, w, h1⟩
      · by_cases q8 : k + 16 = 285
        · obtain ⟨e, w, h1⟩ := hH.2.2.1 k hk _ (by rw [q8]; exact m7)
          rw [q8, m8] at hc
          cases hc
          refine ⟨e, w, ?_⟩
          rcases h1 with ⟨z1, f, z2, z3⟩ | ⟨z1, f, z2, z3⟩
          · exact Or.inl ⟨z1, f, z2, ⟨fun q hq => (by cases hq), z3.2⟩⟩
          · exact Or.inr ⟨z1, f, z2, ⟨fun q hq => (by cases hq), z3.2⟩⟩
        · rw [u2 (k + 16) (by omega) q4 q5 q8] at hc
          cases hc
  · have hc : ai_cell pz_h q = some c := hc
    rw [u2 q (by omega) (by omega) (by omega) (by omega)] at hc
    cases hc
  · obtain ⟨ws2, hP2, hD2, hE2, hH2, hO2, hsa2⟩ := a5
    have hE2 : ai_gE rp' pz_E := hE2
    have hH2 : ai_gH tyc rp' ad pz_E.1 ws' pz_h ws2 := hH2
    have nn2 : ∀ k, k + 16 < 336 → k + 16 ≠ 264 → k + 16 ≠ 265 → k + 16 ≠ 285 → ws2[k]? = ws'[k]? := fun k h1 h2 h3 h4 => hH2.2.2.2 k (by rw [N4]; exact h1) (u2 _ h1 h2 h3 h4)
    obtain ⟨c1, c2, c3, c4, c5, fi', c6⟩ := a2
    have hk : ∀ t, lx_kp t = true → rp' (t - 71) = r t := fun t ht => by
      obtain ⟨x, hx, e, x1, x2⟩ := lx_kp_ok ht
      have e1 : t - 71 = x := by omega
      rw [e1, lx_kl_fx a6 hx]
      exact (hrp x x1 x2).trans (by rw [e])
    have hu : ∀ t, lx_un t = true → lx_up r rp' i.toInt t = r t := fun t ht => lx_up_un hk ht
    have hi : ∀ t, 1 ≤ t → t < 44 → rp' t = lx_up r rp' i.toInt (t + 71) := fun t h1 h2 => (lx_up_in h1 h2).symm
    refine ⟨ws2, lx_up r rp' i.toInt, ⟨f1', f2', f3', g', c1.cg (nn2 270 (by omega) (by omega) (by omega) (by omega)), c2.cg (nn2 272 (by omega) (by omega) (by omega) (by omega)), c3.cg (nn2 273 (by omega) (by omega) (by omega) (by omega)), c4.cg (nn2 274 (by omega) (by omega) (by omega) (by omega)), c5⟩, ⟨ws2, hP2, hD2, ?_, ⟨by have := hH2.1; rw [N4] at this; exact this, hH2.2.1, fun k hk c hc => ?_, fun k hk hc => rfl⟩, fun q hq c hc => ?_, hsa2⟩, hu, fun t h1 h2 => lx_up_in h1 h2, lx_up_158⟩
    · show ai_gE (lx_up r rp' i.toInt) (lx_El v 2)
      refine ⟨(hu 0 rfl).trans hE.1, hE.2.1, fun t ht => ?_, fun q hq => ?_, fun q hq => by rw [hnd] at hq; cases hq⟩
      · by_cases q1 : 72 ≤ t ∧ t < 115
        · have e : t = (t - 71) + 71 := by omega
          rw [e, lx_up_in (by omega) (by omega)]
          exact hE2.2.2.1 _ (by rw [N1]; omega)
        · by_cases q2 : t = 392
          · rw [q2, lx_up_158]
            exact ai_small32 (ai_i32 i)
          · have e : lx_up r rp' i.toInt t = r t := by
              unfold lx_up
              rw [if_neg q1, if_neg q2]
            rw [e]
            exact hE.2.2.1 t ht
      · have b0 := hE.2.2.2.1 q hq
        refine ⟨b0.1, ?_⟩
        have h := List.all_eq_true.mp hbd.1 q hq
        rw [Bool.or_eq_true, Bool.or_eq_true, Bool.and_eq_true] at h
        rcases h with (h | ⟨h1, h2⟩) | h
        · rw [hu _ h]
          exact b0.2
        · rw [Nat.eq_of_beq_eq_true h1, lx_up_158]
          unfold lx_bin at h2
          rw [Bool.and_eq_true] at h2
          have b1 := ai_le_iff.mp h2.1
          have b2 := ai_le_iff.mp h2.2
          have b3 := ai_i32 i
          have b1 : q.2.1 ≤ ai_lo32 := b1
          have b2 : ai_hi32 ≤ q.2.2 := b2
          omega
        · obtain ⟨z, hz, h⟩ := List.any_eq_true.mp h
          unfold lx_bin at h
          simp only [Bool.and_eq_true] at h
          obtain ⟨h1, h2, h3, h4, h5⟩ := h
          have h2 := Nat.le_of_ble_eq_true h2
          have h3 : z.1 < 44 := Nat.le_of_ble_eq_true h3
          rw [Nat.eq_of_beq_eq_true h1, lx_up_in h2 h3]
          have b := (hE2.2.2.2.1 z hz).2
          have b1 := ai_le_iff.mp h4
          have b2 := ai_le_iff.mp h5
          omega
    · have hk : k + 16 < 336 := hk
      have hc : ai_cell lx_h (k + 16) = some c := hc
      show ∃ e, ws2[k]? = some (ad (k + 16), e) ∧ ai_gC tyc _ ad (lx_El v 2).1 336 c e
      by_cases q4 : k + 16 = 264
      · obtain ⟨e, w, vs, h1, h2⟩ := hH2.2.2.1 k (by rw [N4]; exact hk) (.inl (ci, m4)) (by rw [q4]; exact m2)
        rw [q4, m1] at hc
        cases hc
        rw [N1, N4] at h2
        exact ⟨e, w, vs, h1, (lx_pts_ok hi (by rw [hN']; omega) m3).mpr h2⟩
      · by_cases q5 : k + 16 = 265
        · obtain ⟨e, w, h1⟩ := hH2.2.2.1 k (by rw [N4]; exact hk) _ (by rw [q5]; exact m6)
          rw [q5, m5] at hc
          cases hc
          rw [N4] at h1
          exact ⟨e, w, h1⟩
        · by_cases q8 : k + 16 = 285
          · obtain ⟨e, w, h1⟩ := hH2.2.2.1 k (by rw [N4]; exact hk) _ (by rw [q8]; exact m8)
            rw [q8, m7] at hc
            cases hc
            refine ⟨e, w, ?_⟩
            rcases h1 with ⟨z1, f, z2, z3⟩ | ⟨z1, f, z2, z3⟩
            · exact Or.inl ⟨z1, f, z2, ⟨fun q hq => (by cases hq), z3.2⟩⟩
            · exact Or.inr ⟨z1, f, z2, ⟨fun q hq => (by cases hq), z3.2⟩⟩
          · have e2 := nn2 k hk q4 q5 q8
            by_cases q7 : k + 16 = 287
            · rw [q7, m9] at hc
              cases hc
              have ek : k = 271 := by omega
              subst ek
              obtain ⟨a, c6⟩ := c6
              have c6 : ws'[271]? = some (a, .inl (tyc 0, 40, .inl fi')) := c6
              rw [c6] at e2
              have ea := hH2.2.1 _ _ e2
              have ea : a = ad 287 := ea
              rw [ea] at e2
              exact ⟨_, e2, Or.inr ⟨Or.inl rfl, fi', rfl, ⟨fun q hq => (by cases hq), fun j hj => ai_i32 (fi' j)⟩⟩⟩
            · by_cases q3 : k + 16 = 293
              · rw [q3, m10] at hc
                cases hc
                have ek : k = 277 := by omega
                subst ek
                obtain ⟨a, a3⟩ := a3
                have a3 : ws'[277]? = some (a, .inl (tyc 2, 4, .inl fb')) := a3
                rw [a3] at e2
                have ea := hH2.2.1 _ _ e2
                have ea : a = ad 293 := ea
                rw [ea] at e2
                exact ⟨_, e2, Or.inr ⟨Or.inr rfl, fb', rfl, ⟨fun q hq => (by cases hq), fun j hj => a4 j hj⟩⟩⟩
              · have z0 : k ≠ 270 := fun z => by
                  subst z
                  rw [show ai_cell lx_h (270 + 16) = none from u4] at hc
                  cases hc
                have z2 : k ≠ 272 := fun z => by
                  subst z
                  rw [show ai_cell lx_h (272 + 16) = none from u5] at hc
                  cases hc
                have z3 : k ≠ 273 := fun z => by
                  subst z
                  rw [show ai_cell lx_h (273 + 16) = none from u6] at hc
                  cases hc
                have z4 : k ≠ 274 := fun z => by
                  subst z
                  rw [show ai_cell lx_h (274 + 16) = none from u7] at hc
                  cases hc
                obtain ⟨e, w, h1⟩ := hH.2.2.1 k hk c hc
                have e3 := a1 k hk z0 (by omega) z2 z3 z4 (by omega) (u2 _ hk q4 q5 q8)
                exact ⟨e, (e2.trans e3).trans w, lx_ugC hu (u1 _ hk q4 c hc) h1⟩
    · have hc : ai_cell lx_h q = some c := hc
      rw [u3 q hq] at hc
      cases hc
end EM
