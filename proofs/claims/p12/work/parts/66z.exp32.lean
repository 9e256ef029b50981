/-! THE LEAST (the reference): leastOf, what it says -/
theorem zl_A {A : Nat → Int} {H j : Nat} (h : j + 1 ≤ am_nZ A H) : A (j + 1) ≠ -1 := by
  have b := am_n_leZ (A := A) H
  have e := am_n_min (A := A) (K := H) (d := H - (j + 1)) (k := j + 1) (by omega)
  rw [Nat.min_eq_left h, am_n_sZ] at e
  intro q
  rw [if_neg (fun w => w.2 q)] at e
  have c := am_n_leZ (A := A) j
  omega
theorem zl_Sb {A : Nat → Int} {H : Nat} (hA : ∀ u, A u = -1 ∨ (0 ≤ A u ∧ A u ≤ 9999)) (hH : H ≤ 7) : ∀ u, u ≤ am_nZ A H → 0 ≤ am_SZ A u ∧ am_SZ A u ≤ 9999 * (u : Int)
  | 0, _ => by
    show (0 : Int) ≤ 0 ∧ (0 : Int) ≤ 9999 * ((0 : Nat) : Int)
    omega
  | u + 1, h => by
    have ih := zl_Sb hA hH u (by omega)
    have b := am_n_leZ (A := A) H
    have a := (hA (u + 1)).resolve_left (zl_A h)
    have e : am_SZ A (u + 1) = am_SZ A u + A (u + 1) := wq_o0 (by omega) (by omega)
    rw [e]
    omega
noncomputable def zl_lo (r : Nat → Int) (on w : Int) (K m : Nat) : Nat := if m < K then zt_lo r on w m else 0
noncomputable def zl_hi (r : Nat → Int) (on w T : Int) (q : Nat) (l : Nat → List Int) (K m : Nat) : Nat := if m < K then am_nZ (zt_A r q T m (l m)) (zt_h0 r on w q m) else 0
noncomputable def zl_C (r : Nat → Int) (T : Int) (q : Nat) (l : Nat → List Int) (K m u : Nat) : Int := if m < K then am_SZ (zt_A r q T m (l m)) u else 0
/-- what is put in ahead: the loads, and one more at the place x -/
noncomputable def zl_b (r : Nat → Int) (q : Nat) (x : Int) (p : Nat) : Int := if (p : Int) < r 71 then 0 - r (169 + 4 * p + q) - (if x = (p : Int) then 1 else 0) else r (723 + p)
noncomputable def zl_T (r : Nat → Int) (q : Nat) (x : Int) : Int := op_TZ r q 0 + (if x = -1 then 0 else 1)
noncomputable def zl_n (t : Nat) : Prop := (t ≠ 90 ∧ t ≠ 91) ∧ ¬ (700 ≤ t ∧ t < 700 + 4) ∧ ¬ (704 ≤ t ∧ t < 704 + 4) ∧ ¬ (708 ≤ t ∧ t < 708 + 4) ∧ ¬ (712 ≤ t ∧ t < 712 + 4) ∧ ¬ (723 ≤ t ∧ t < 723 + 4) ∧ ¬ (419 ≤ t ∧ t < 419 + 5)
noncomputable def zl_s (r : Nat → Int) : Nat → Int := fun k => if k < 4 then r (712 + k) else 0
noncomputable def zl_v (r : Nat → Int) (q : Nat) (on w x : Int) (K : Nat) (l : Nat → List Int) (F : (Nat → Int) → Bool) : ze_S := if r 574 = 0 then (-1, zl_s r) else ze_go (zl_lo r on w K) (zl_hi r on w (zl_T r q x) q l K) (zl_C r (zl_T r q x) q l K) F K 0 (zl_T r q x).toNat 0 (fun _ => 0) (-1, zl_s r)
noncomputable def zl_J (q K : Nat) (l : Nat → List Int) (r : Nat → Int) (M : Nat → Nat → Int) : Prop := (lo_zZ q r ∧ ∀ p : Nat, p < 4 → 0 ≤ r (169 + 4 * p + q) ∧ r (169 + 4 * p + q) ≤ 9) ∧ (r 73 = (K : Int) ∧ ∀ m, m < K → zt_P q m r ∧ r (133 + m) < r 71 ∧ zt_O m (l m) r M) ∧ (1 ≤ r 71 ∨ r 72 = 0)
noncomputable def zl_P (q K : Nat) (on w x : Int) (l : Nat → List Int) (F : (Nat → Int) → Bool) (r : Nat → Int) (M : Nat → Nat → Int) : Prop := ((r 727 = (q : Int) ∧ r 728 = on) ∧ r 729 = w ∧ r 730 = x) ∧ zl_J q K l r M ∧ ∀ z, F z = true ↔ zr_ft (zg_pr r (zl_b r q x) z K)
noncomputable def zl_Q (q K : Nat) (on w x : Int) (l : Nat → List Int) (F : (Nat → Int) → Bool) (r : Nat → Int) (M : Nat → Nat → Int) (r2 : Nat → Int) (M2 : Nat → Nat → Int) (o : Option Int) : Prop := o = some (zl_v r q on w x K l F).1 ∧ (zg_S K r2 (zl_v r q on w x K l F) ∧ zc_B (zl_v r q on w x K l F)) ∧ (∀ t, t < 727 → zl_n t → r2 t = r t) ∧ ∀ z, z ≠ 292 → z ≠ 299 → M2 z = M z
/-- what a mill's telling rests on -/
noncomputable def zl_d (t : Nat) : Prop := t = 73 ∨ t = 92 ∨ (141 ≤ t ∧ t < 141 + 4) ∨ (137 ≤ t ∧ t < 137 + 4) ∨ (153 ≤ t ∧ t < 153 + 4) ∨ (145 ≤ t ∧ t < 145 + 4) ∨ (149 ≤ t ∧ t < 149 + 4) ∨ (716 ≤ t ∧ t < 716 + 3) ∨ (185 ≤ t ∧ t < 185 + 16)
theorem zl_cg {r r1 : Nat → Int} {on w T : Int} {q m : Nat} {l : List Int} (hq : q < 4) (hm : m < 4) (h : ∀ t, t < 727 → zl_d t → r1 t = r t) (hH : r (141 + m) ≤ 2) : (zt_lo r1 on w m = zt_lo r on w m ∧ zt_h0 r1 on w q m = zt_h0 r on w q m) ∧ zt_A r1 q T m l = zt_A r q T m l := by
  refine ⟨⟨?_, ?_⟩, ?_⟩
  · unfold zt_lo zs_l
    dsimp only
    rw [h 73 (by omega) (by unfold zl_d; omega), h (141 + m) (by omega) (by unfold zl_d; omega), h (137 + m) (by omega) (by unfold zl_d; omega), h (153 + m) (by omega) (by unfold zl_d; omega), h 92 (by omega) (by unfold zl_d; omega)]
  · unfold zt_h0 zs_h
    dsimp only
    rw [h 73 (by omega) (by unfold zl_d; omega), h (141 + m) (by omega) (by unfold zl_d; omega), h (137 + m) (by omega) (by unfold zl_d; omega), h (153 + m) (by omega) (by unfold zl_d; omega), h 92 (by omega) (by unfold zl_d; omega), h (145 + m) (by omega) (by unfold zl_d; omega), h (185 + 4 * m + q) (by omega) (by unfold zl_d; omega), h (716 + (r (141 + m)).toNat) (by omega) (by unfold zl_d; omega)]
  · unfold zt_A
    funext u
    refine congrArg (fun V => av_askZ V l) ?_
    funext j
    unfold aVZ
    rw [h (149 + m) (by omega) (by unfold zl_d; omega), h (145 + m) (by omega) (by unfold zl_d; omega)]
theorem zl_Fe {r r1 b : Nat → Int} {K : Nat} (hK : K ≤ 4) (hP : r 71 ≤ 4) (h : ∀ t, t < 727 → zl_n t → r1 t = r t) {z : Nat → Int} : zr_ft (zg_pr r1 b z K) ↔ zr_ft (zg_pr r b z K) := by
  have hp : ∀ j, j < 4 → r1 (133 + j) = r (133 + j) := fun j hj => h _ (by omega) (by unfold zl_n; omega)
  refine zr_fte (fun x a => ?_) (by
    show (if 723 ≤ 71 ∧ 71 < 723 + 4 then _ else r 71) ≤ 4
    rw [if_neg (by omega)]
    exact hP)
  unfold zg_pr
  by_cases q : 723 ≤ x ∧ x < 723 + 4
  · rw [if_pos q, if_pos q]
    exact zg_oe hp hK (fun _ _ => rfl)
  · rw [if_neg q, if_neg q]
    exact h x (by unfold zr_dp at a; omega) (by unfold zr_dp at a; unfold zl_n; omega)
theorem zl_Te {r : Nat → Int} {q : Nat} (h : ∀ p : Nat, p < 4 → 0 ≤ r (169 + 4 * p + q) ∧ r (169 + 4 * p + q) ≤ 9) : op_TZ r q 0 = r (169 + 4 * 0 + q) + r (169 + 4 * 1 + q) + r (169 + 4 * 2 + q) + r (169 + 4 * 3 + q) := by
  have e : ∀ p, op_lZ r q 0 p = r (169 + 4 * p + q) := fun p => if_neg (by omega)
  have a0 := h 0 (by omega)
  have a1 := h 1 (by omega)
  have a2 := h 2 (by omega)
  have a3 := h 3 (by omega)
  show ai_op 0 (ai_op 0 (ai_op 0 (op_lZ r q 0 0) (op_lZ r q 0 1)) (op_lZ r q 0 2)) (op_lZ r q 0 3) = _
  rw [e, e, e, e, wq_o0 (x := r (169 + 4 * 0 + q)) (by omega) (by omega), wq_o0 (x := r (169 + 4 * 0 + q) + r (169 + 4 * 1 + q)) (by omega) (by omega), wq_o0 (by omega) (by omega)]
