/-! THE LEAST (the reference): whether a row fits -/
noncomputable def zr_q (v l p : Nat) : Nat := 580 + (20 * v + 4 * l + p)
noncomputable def zr_sx (v l : Nat) : Nat → pt_X
  | 0 => [(1, 0, 0)]
  | p + 1 => zr_sx v l p ++ [(0, zr_q v l p, 0), (0, 723 + p, 0), (2, 22, 0), (2, 20, 0)]
noncomputable def zr_fx (v l p : Nat) : pt_X := zr_sx v l p ++ [(1, 0, 0), (2, 26, 0)]
noncomputable def zr_mx (v l : Nat) : pt_X := [(0, 128 + l, 0), (0, 729, 0), (2, 0, 0), (0, 574 + v, 0), (2, 22, 0)]
noncomputable def zr_L (v : Nat) (b c d : ai_V) : List ai_V := [wa_r 264, wa_k v, b, c, d, wa_u, wa_u]
noncomputable def zr_h (v : Nat) : List ai_V := zr_L v wa_u wa_u wa_u
noncomputable def zr_lh (v l : Nat) : List ai_V := zr_L v (wa_i 729) (wa_k l) wa_u
noncomputable def zr_mo (v : Nat) : pt_X := match v with
  | 0 => gz_k 0
  | _ => gz_p 88
noncomputable abbrev zr_r (st : List Nat) (pc : Nat) (L S : List ai_V) (sp : List (Nat × Int)) (cp : List (Nat × Int × Int)) (Es : List pt_E) : Bool := pt_row zyY 216 st true (pc, 0, 0) L S sp cp [] [] Es
theorem zr_c0 : zr_r [2] 0 [wa_r 264, wa_u, wa_u, wa_u, wa_u, wa_u, wa_u] [] [] [] [((2, 0, 0), (zr_h 0, []), [], [])] = true := by decide +kernel
theorem zr_c1 : (List.range 7).all (fun v => (match v with
  | 0 => zr_r [21, 158] 2 (zr_h 0) [] [] [(87, (0, 0))] [((21, 0, 0), (zr_h 0, []), [], [])]
  | v + 1 => zr_r [21, 158] 2 (zr_h (v + 1)) [] [] [(87, (0, 0))] [((158, 0, 0), (zr_h (v + 1), [wa_k 1]), [], [])]) && (zr_r [21, 158] 2 (zr_h v) [] [] [(87, (1, 1)), (72, (.ofNat v, 6))] [((21, 0, 0), (zr_h v, []), [], [])] && (match v with
  | 0 => true
  | v + 1 => zr_r [21, 158] 2 (zr_h (v + 1)) [] [] [(87, (1, 1)), (72, (0, .ofNat v))] [((158, 0, 0), (zr_h (v + 1), [wa_k 1]), [], [])]))) = true := by decide +kernel
theorem zr_c2 : (List.range 6).all (fun v => zr_r [2, 50] 21 (zr_h v) [] [] [] [((50, 0, 0), (zr_lh v 0, []), [(729, zr_mo v)], [(1, gz_p (574 + v), gz_k 0)]), ((2, 0, 0), (zr_h (v + 1), []), [], [(0, gz_k 0, gz_p (574 + v)), (0, gz_p (574 + v), gz_k 0)])]) = true := by decide +kernel
theorem zr_c3 : (List.range 6).all (fun v => (List.range 6).all (fun l => zr_r [2, 50, 144] 50 (zr_lh v l) [] [] [(72, (0, .ofNat l))] [((2, 0, 0), (zr_h (v + 1), []), [], [])])) = true := by decide +kernel
theorem zr_c4 : (List.range 5).all (fun l => zr_r [2, 50, 144] 50 (zr_lh (l + 1) l) [] [] [(72, (.ofNat (l + 1), 5))] [((50, 0, 0), (zr_lh (l + 1) (l + 1), []), [], [])]) = true := by decide +kernel
theorem zr_c5 : (List.range 6).all (fun v => (List.range 5).all (fun l => Nat.beq v (l + 1) || (List.range 4).all (fun p => zr_r [2, 50, 144] 50 (zr_lh v l) [] [(71, .ofNat (p + 1))] [(72, (.ofNat (l + 1), 5))] [((50, 0, 0), (zr_lh v (l + 1), []), [(71, gz_k (.ofNat (p + 1)))], [(0, zr_fx v l (p + 1), zr_mx v l)]), ((144, 0, 0), (zr_lh v l, [wa_k 0]), [(71, gz_k (.ofNat (p + 1)))], [(0, zr_mx v l, zr_fx v l (p + 1) ++ [(3, 0, -1)])])]))) = true := by decide +kernel
theorem zr_k : ((pt_is 8 216 144 = true ∧ pt_is 8 216 158 = true) ∧ (ct_mt 216).2.2.1 = 7) ∧ lh_plain 216 = true ∧ ct_bud 216 = (0, 0) := by decide +kernel
theorem zr_bd : (zyE.2.1.any (fun q => decide (q = (72, ((0 : Int), (5 : Int))))) = true ∧ zyE.2.1.any (fun q => decide (q = (71, ((0 : Int), (4 : Int))))) = true) ∧ zyE.2.1.any (fun q => decide (q = (87, ((0 : Int), (1 : Int))))) = true ∧ (List.range 4).all (fun j => zyE.2.1.any (fun q => decide (q = (133 + j, ((0 : Int), (3 : Int)))))) = true := by decide +kernel
noncomputable def zr_s (r : Nat → Int) (v l : Nat) : Nat → Int
  | 0 => 0
  | p + 1 => ai_op 20 (zr_s r v l p) (ai_op 22 (r (zr_q v l p)) (r (723 + p)))
noncomputable def zr_f (r : Nat → Int) (v l : Nat) : Int := ai_op 26 (zr_s r v l (r 71).toNat) 0
noncomputable def zr_m (r : Nat → Int) (v l : Nat) : Int := ai_op 22 (ai_op 0 (r (128 + l)) (if v = 0 then 0 else r 88)) (r (574 + v))
noncomputable def zr_co (r : Nat → Int) (v : Nat) : Prop := r (574 + v) = 0 ∨ ∀ l : Nat, l < 5 → (l : Int) + 1 ≤ r 72 → v ≠ l + 1 → zr_f r v l ≤ zr_m r v l
noncomputable def zr_vw (r : Nat → Int) : Int := if r 87 = 0 then 0 else r 72
noncomputable def zr_ft (r : Nat → Int) : Prop := ∀ v : Nat, v < 6 → (v : Int) ≤ zr_vw r → zr_co r v
/-- numbers that it rests on whether a row fits -/
noncomputable def zr_dp (t : Nat) : Prop := (574 ≤ t ∧ t < 574 + 6) ∨ (580 ≤ t ∧ t < 580 + 120) ∨ (723 ≤ t ∧ t < 723 + 4) ∨ (128 ≤ t ∧ t < 128 + 5) ∨ t = 88 ∨ t = 72 ∨ t = 71 ∨ t = 87
theorem zr_se {r r1 : Nat → Int} (h : ∀ t, zr_dp t → r1 t = r t) {v l : Nat} (hv : v < 6) (hl : l < 5) : ∀ {p : Nat}, p ≤ 4 → zr_s r1 v l p = zr_s r v l p
  | 0, _ => rfl
  | p + 1, hp => by
    show ai_op 20 (zr_s r1 v l p) (ai_op 22 (r1 (zr_q v l p)) (r1 (723 + p))) = ai_op 20 (zr_s r v l p) (ai_op 22 (r (zr_q v l p)) (r (723 + p)))
    rw [zr_se h hv hl (by omega), h (zr_q v l p) (by unfold zr_dp zr_q; omega), h (723 + p) (by unfold zr_dp; omega)]
theorem zr_coe {r r1 : Nat → Int} (h : ∀ t, zr_dp t → r1 t = r t) (hP : r 71 ≤ 4) {v : Nat} (hv : v < 6) : zr_co r1 v ↔ zr_co r v := by
  have ef : ∀ l, l < 5 → zr_f r1 v l = zr_f r v l ∧ zr_m r1 v l = zr_m r v l := fun l hl => by
    unfold zr_f zr_m
    rw [h 71 (by unfold zr_dp; omega), zr_se h hv hl (by omega), h (128 + l) (by unfold zr_dp; omega), h 88 (by unfold zr_dp; omega), h (574 + v) (by unfold zr_dp; omega)]
    exact ⟨rfl, rfl⟩
  unfold zr_co
  rw [h (574 + v) (by unfold zr_dp; omega), h 72 (by unfold zr_dp; omega)]
  refine ⟨fun g => ?_, fun g => ?_⟩
  · rcases g with g | g
    · exact Or.inl g
    · exact Or.inr (fun l hl hle hne => by rw [← (ef l hl).1, ← (ef l hl).2]; exact g l hl hle hne)
  · rcases g with g | g
    · exact Or.inl g
    · exact Or.inr (fun l hl hle hne => by rw [(ef l hl).1, (ef l hl).2]; exact g l hl hle hne)
theorem zr_fte {r r1 : Nat → Int} (h : ∀ t, zr_dp t → r1 t = r t) (hP : r 71 ≤ 4) : zr_ft r1 ↔ zr_ft r := by
  have ew : zr_vw r1 = zr_vw r := by
    unfold zr_vw
    rw [h 87 (by unfold zr_dp; omega), h 72 (by unfold zr_dp; omega)]
  unfold zr_ft
  rw [ew]
  exact ⟨fun g v hv hle => (zr_coe h hP hv).mp (g v hv hle), fun g v hv hle => (zr_coe h hP hv).mpr (g v hv hle)⟩
theorem zr_fxv {r : Nat → Int} {v l p : Nat} (hp : p < 4) (e : r 71 = ((p + 1 : Nat) : Int)) : pt_v r (zr_fx v l (p + 1)) = zr_f r v l := by
  unfold zr_f
  rw [e]
  rcases (by omega : p = 0 ∨ p = 1 ∨ p = 2 ∨ p = 3) with rfl | rfl | rfl | rfl <;> rfl
section ZRF
variable {n : Nat} {Z : (Nat → Int) → (Nat → Nat → Int) → Option Int → Prop} {P : pt_P} {r0 : Nat → Int} {M : Nat → Nat → Int}
theorem zr_lines (h : pt_Cl n 216 zyY 1 Z P) (hp : 1 ≤ r0 71 ∨ r0 72 = 0) {v : Nat} (hv : v < 6) (hd : r0 (574 + v) ≠ 0) (hno : ∀ r2, ¬ zr_co r0 v → (∀ t, t < 727 → r2 t = r0 t) → Z r2 M (some 0)) (hgo : ∀ r2, zr_co r0 v → (∀ t, t < 727 → r2 t = r0 t) → P (2, 0, 0) (zr_h (v + 1)) [] r2 M) :
    ∀ (d l : Nat) (r : Nat → Int), l + d = 5 → (r 729 = if v = 0 then 0 else r0 88) → (∀ t, t < 727 → r t = r0 t) → (∀ k : Nat, k < l → (k : Int) + 1 ≤ r0 72 → v ≠ k + 1 → zr_f r0 v k ≤ zr_m r0 v k) → P (50, 0, 0) (zr_lh v l) [] r M := by
  obtain ⟨hseg, henv, -, -, -, -, -, -, -, -, -, hret, -⟩ := h
  have out : ∀ (l : Nat) (r : Nat → Int), l ≤ 5 → r0 72 ≤ (l : Int) → (∀ t, t < 727 → r t = r0 t) → (∀ k : Nat, k < l → (k : Int) + 1 ≤ r0 72 → v ≠ k + 1 → zr_f r0 v k ≤ zr_m r0 v k) → P (50, 0, 0) (zr_lh v l) [] r M := fun l r hl hle fr ok => by
    refine henv _ _ _ _ _ (fun hE _ => ?_)
    have bL := ze_eb hE zr_bd.1.1
    have eL : r 72 = r0 72 := fr _ (by omega)
    refine hseg _ _ _ _ _ r M _ _ _ _ _ (List.all_eq_true.mp (List.all_eq_true.mp zr_c3 v (List.mem_range.mpr hv)) l (List.mem_range.mpr (by omega))) ⟨pt_m0, pt_m1 ⟨bL.1, by show r 72 ≤ (l : Int); omega⟩, pt_m0⟩ ⟨fun _ => ?_, trivial⟩
    exact hgo _ (Or.inr (fun k hk hkl hne => ok k (by omega) hkl hne)) fr
  intro d
  induction d with
  | zero =>
    intro l r hd' e2 fr ok
    refine henv _ _ _ _ _ (fun hE _ => ?_)
    have bL := ze_eb hE zr_bd.1.1
    have eL : r 72 = r0 72 := fr _ (by omega)
    exact out l r (by omega) (by omega) fr ok
  | succ d ih =>
    intro l r hd' e2 fr ok
    by_cases c : r0 72 ≤ (l : Int)
    · exact out l r (by omega) c fr ok
    refine henv _ _ _ _ _ (fun hE _ => ?_)
    have bL := ze_eb hE zr_bd.1.1
    have bP := ze_eb hE zr_bd.1.2
    have eL : r 72 = r0 72 := fr _ (by omega)
    have eP : r 71 = r0 71 := fr _ (by omega)
    have l5 : l < 5 := by omega
    have bl : ((l + 1 : Nat) : Int) ≤ r 72 ∧ r 72 ≤ 5 := by omega
    by_cases cv : v = l + 1
    · subst cv
      refine hseg _ _ _ _ _ r M _ _ _ _ _ (List.all_eq_true.mp zr_c4 l (List.mem_range.mpr l5)) ⟨pt_m0, pt_m1 bl, pt_m0⟩ ⟨fun _ => ?_, trivial⟩
      refine ih (l + 1) r (by omega) e2 fr (fun k hk hkl hne => ?_)
      by_cases q : k = l
      · rw [q] at hne
        exact absurd rfl hne
      · exact ok k (by omega) hkl hne
    · obtain ⟨p, hp'⟩ : ∃ p : Nat, r 71 = ((p + 1 : Nat) : Int) := ⟨(r 71).toNat - 1, by omega⟩
      have row := List.all_eq_true.mp (List.all_eq_true.mp zr_c5 v (List.mem_range.mpr hv)) l (List.mem_range.mpr l5)
      rw [Bool.or_eq_true] at row
      rcases row with row | row
      · exact absurd (Nat.eq_of_beq_eq_true row) cv
      have row := List.all_eq_true.mp row p (List.mem_range.mpr (by omega))
      have up : pt_up r [(71, gz_k (.ofNat (p + 1)))] = r := by
        funext t
        show (if t = 71 then ((p + 1 : Nat) : Int) else r t) = r t
        by_cases q : t = 71
        · rw [if_pos q, q, hp']
        · rw [if_neg q]
      have ef : pt_v r (zr_fx v l (p + 1)) = zr_f r0 v l := by
        rw [zr_fxv (by omega) hp']
        unfold zr_f
        rw [eP, zr_se (fun t a => fr t (by unfold zr_dp at a; omega)) hv l5 (by omega)]
      have em : pt_v r (zr_mx v l) = zr_m r0 v l := by
        show ai_op 22 (ai_op 0 (r (128 + l)) (r 729)) (r (574 + v)) = _
        rw [e2, fr _ (by omega), fr _ (by omega)]
        rfl
      refine hseg _ _ _ _ _ r M _ _ _ _ _ row ⟨pt_m1 hp', pt_m1 bl, pt_m0⟩ ⟨fun g => ?_, fun g => ?_, trivial⟩
      · have g : pt_v r (zr_fx v l (p + 1)) ≤ pt_v r (zr_mx v l) := g.1
        rw [ef, em] at g
        show P (50, 0, 0) (zr_lh v (l + 1)) [] (pt_up r [(71, gz_k (.ofNat (p + 1)))]) M
        rw [up]
        refine ih (l + 1) r (by omega) e2 fr (fun k hk hkl hne => ?_)
        by_cases q : k = l
        · rw [q]
          exact g
        · exact ok k (by omega) hkl hne
      · have g : pt_v r (zr_mx v l) ≤ pt_v r (zr_fx v l (p + 1)) + -1 := by
          have g := g.1
          have e : pt_v r (zr_fx v l (p + 1) ++ [(3, 0, -1)]) = pt_v r (zr_fx v l (p + 1)) + -1 := by
            rcases (by omega : p = 0 ∨ p = 1 ∨ p = 2 ∨ p = 3) with rfl | rfl | rfl | rfl <;> rfl
          rw [← e]
          exact g
        rw [ef, em] at g
        show P (144, 0, 0) (zr_lh v l) [wa_k 0] (pt_up r [(71, gz_k (.ofNat (p + 1)))]) M
        rw [up]
        have e0 : ai_vx r (0, .ofNat 0) = 0 := by
          show r 0 + 0 = 0
          rw [hE.1]
          rfl
        refine hret (144, 0, 0) _ (0, .ofNat 0) r M rfl zr_k.1.1.1 (by decide +kernel) (by decide +kernel) (Or.inl e0) ?_
        rw [e0]
        refine hno r (fun q => ?_) fr
        rcases q with q | q
        · exact hd q
        · have := q l l5 (by omega) cv
          omega
theorem zr_views (h : pt_Cl n 216 zyY 1 Z P) (hp : 1 ≤ r0 71 ∨ r0 72 = 0) (hz : ∀ r2 b, ((b = 1 ∧ zr_ft r0) ∨ (b = 0 ∧ ¬ zr_ft r0)) → (∀ t, t < 727 → r2 t = r0 t) → Z r2 M (some b)) :
    ∀ (d v : Nat) (r : Nat → Int), v + d = 6 → (∀ t, t < 727 → r t = r0 t) → (∀ k : Nat, k < v → (k : Int) ≤ zr_vw r0 → zr_co r0 k) → P (2, 0, 0) (zr_h v) [] r M := by
  have h' := h
  obtain ⟨hseg, henv, -, -, -, -, -, -, -, -, -, hret, -⟩ := h'
  have out : ∀ (v : Nat) (r : Nat → Int), (∀ t, t < 727 → r t = r0 t) → (zr_vw r0 < (v : Int) ∨ 6 ≤ v) → (∀ k : Nat, k < v → (k : Int) ≤ zr_vw r0 → zr_co r0 k) → P (158, 0, 0) (zr_h v) [wa_k 1] r M := fun v r fr hle ok => by
    refine henv _ _ _ _ _ (fun hE _ => ?_)
    have e1 : ai_vx r (0, .ofNat 1) = 1 := by
      show r 0 + 1 = 1
      rw [hE.1]
      rfl
    refine hret (158, 0, 0) _ (0, .ofNat 1) r M rfl zr_k.1.1.2 (by decide +kernel) (by decide +kernel) (Or.inr e1) ?_
    rw [e1]
    exact hz r 1 (Or.inl ⟨rfl, fun k hk hkl => ok k (by omega) hkl⟩) fr
  have step : ∀ (v : Nat) (r : Nat → Int), v < 6 → (∀ t, t < 727 → r t = r0 t) → (v : Int) ≤ zr_vw r0 → (∀ r2, zr_co r0 v → (∀ t, t < 727 → r2 t = r0 t) → P (2, 0, 0) (zr_h (v + 1)) [] r2 M) → P (21, 0, 0) (zr_h v) [] r M := fun v r hv fr hle go => by
    have row := List.all_eq_true.mp zr_c2 v (List.mem_range.mpr hv)
    refine hseg _ _ _ _ _ r M _ _ _ _ _ row ⟨pt_m0, pt_m0, pt_m0⟩ ⟨fun g => ?_, fun g => ?_, trivial⟩
    · have g : r (574 + v) ≠ 0 := g.1
      rw [fr _ (by omega)] at g
      have em : pt_v r (zr_mo v) = if v = 0 then 0 else r0 88 := by
        rw [← fr 88 (by omega)]
        cases v with
        | zero => rfl
        | succ v => rfl
      refine zr_lines h hp hv g (fun r2 a b => hz r2 0 (Or.inr ⟨rfl, fun q => a (q v hv hle)⟩) b) go 5 0 (pt_up r [(729, zr_mo v)]) rfl ((if_pos rfl).trans em) (fun t a => (if_neg (by show ¬ t = 729; omega)).trans (fr t a)) (fun k hk => absurd hk (Nat.not_lt_zero k))
    · have g1 : 0 ≤ r (574 + v) := g.1
      have g2 : r (574 + v) ≤ 0 := g.2.1
      exact go r (Or.inl (by rw [← fr _ (by omega)]; omega)) fr
  intro d
  induction d with
  | zero =>
    intro v r hd fr ok
    have ev : v = 6 := by omega
    subst ev
    refine henv _ _ _ _ _ (fun hE _ => ?_)
    have bL := ze_eb hE zr_bd.1.1
    have bF := ze_eb hE zr_bd.2.1
    have row := List.all_eq_true.mp zr_c1 6 (List.mem_range.mpr (by omega))
    rw [Bool.and_eq_true, Bool.and_eq_true] at row
    by_cases c : r 87 = 0
    · refine hseg _ _ _ _ _ r M _ _ _ _ _ row.1 ⟨pt_m0, pt_m1 ⟨by show (0 : Int) ≤ r 87; omega, by show r 87 ≤ 0; omega⟩, pt_m0⟩ ⟨fun _ => ?_, trivial⟩
      exact out 6 r fr (Or.inr (Nat.le_refl 6)) ok
    · refine hseg _ _ _ _ _ r M _ _ _ _ _ row.2.2 ⟨pt_m0, pt_m2 ⟨by show (1 : Int) ≤ r 87; omega, by show r 87 ≤ 1; omega⟩ ⟨by show (0 : Int) ≤ r 72; omega, by show r 72 ≤ 5; omega⟩, pt_m0⟩ ⟨fun _ => ?_, trivial⟩
      exact out 6 r fr (Or.inr (Nat.le_refl 6)) ok
  | succ d ih =>
    intro v r hd fr ok
    have hv : v < 6 := by omega
    refine henv _ _ _ _ _ (fun hE _ => ?_)
    have bL := ze_eb hE zr_bd.1.1
    have bF := ze_eb hE zr_bd.2.1
    have eF : r 87 = r0 87 := fr _ (by omega)
    have eL : r 72 = r0 72 := fr _ (by omega)
    have next : (v : Int) ≤ zr_vw r0 → P (21, 0, 0) (zr_h v) [] r M := fun hle => step v r hv fr hle (fun r2 a b => ih (v + 1) r2 (by omega) b (fun k hk hkl => by
      by_cases q : k = v
      · rw [q]
        exact a
      · exact ok k (by omega) hkl))
    have row := List.all_eq_true.mp zr_c1 v (List.mem_range.mpr (by omega))
    rw [Bool.and_eq_true, Bool.and_eq_true] at row
    by_cases c : r 87 = 0
    · have w0 : zr_vw r0 = 0 := if_pos (by omega)
      have asm : pt_asm r [] [(87, ((0 : Int), (0 : Int)))] [] := ⟨pt_m0, pt_m1 ⟨by show (0 : Int) ≤ r 87; omega, by show r 87 ≤ 0; omega⟩, pt_m0⟩
      cases v with
      | zero =>
        refine hseg _ _ _ _ _ r M _ _ _ _ _ row.1 asm ⟨fun _ => ?_, trivial⟩
        exact next (by rw [w0]; exact Int.le_refl 0)
      | succ v =>
        refine hseg _ _ _ _ _ r M _ _ _ _ _ row.1 asm ⟨fun _ => ?_, trivial⟩
        exact out (v + 1) r fr (Or.inl (by rw [w0]; omega)) ok
    · have wL : zr_vw r0 = r0 72 := if_neg (by omega)
      have bf : (1 : Int) ≤ r 87 ∧ r 87 ≤ 1 := by omega
      by_cases c2 : (v : Int) ≤ r 72
      · refine hseg _ _ _ _ _ r M _ _ _ _ _ row.2.1 ⟨pt_m0, pt_m2 bf ⟨by show (v : Int) ≤ r 72; omega, by show r 72 ≤ 6; omega⟩, pt_m0⟩ ⟨fun _ => ?_, trivial⟩
        exact next (by rw [wL, ← eL]; exact c2)
      · cases v with
        | zero => exact absurd bL.1 c2
        | succ v =>
          refine hseg _ _ _ _ _ r M _ _ _ _ _ row.2.2 ⟨pt_m0, pt_m2 bf ⟨by show (0 : Int) ≤ r 72; omega, by show r 72 ≤ (v : Int); omega⟩, pt_m0⟩ ⟨fun _ => ?_, trivial⟩
          exact out (v + 1) r fr (Or.inl (by rw [wL, ← eL]; omega)) ok
end ZRF
theorem zr_fM {n : Nat} (hn : 4 ≤ n) : pt_Met (n + 1) 216 zyY [wa_r 264] (fun r _ => 1 ≤ r 71 ∨ r 72 = 0) (fun r M r2 M2 o => ((o = some 1 ∧ zr_ft r) ∨ (o = some 0 ∧ ¬ zr_ft r)) ∧ (∀ t, t < 727 → r2 t = r t) ∧ M2 = M) 1 := by
  refine pt_intro (L0 := [wa_r 264, wa_u, wa_u, wa_u, wa_u, wa_u, wa_u]) zr_k.2.1 hn zysys (by
    rw [zr_k.1.2]
    rfl) (fun P r M h hp => ?_)
  refine h.1 _ _ _ _ _ r M _ _ _ _ _ zr_c0 ⟨pt_m0, pt_m0, pt_m0⟩ ⟨fun _ => ?_, trivial⟩
  show P (2, 0, 0) (zr_h 0) [] (pt_up r []) M
  refine zr_views h hp (fun r2 b hb f2 => ⟨?_, f2, rfl⟩) 6 0 _ rfl (fun _ _ => rfl) (fun k hk => absurd hk (Nat.not_lt_zero k))
  rcases hb with ⟨hb, hc⟩ | ⟨hb, hc⟩
  · exact Or.inl ⟨congrArg some hb, hc⟩
  · exact Or.inr ⟨congrArg some hb, hc⟩
