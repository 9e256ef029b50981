/-! THE LEAST (the class): span's loop -/
/-- what the span speaks of -/
noncomputable def zs_P (q sd : Nat) (r : Nat → Int) : Prop := (r 44 = (q : Int) ∧ q < 4) ∧ (∀ m, m < 4 → (0 ≤ r (415 + m) ∧ r (415 + m) ≤ 7) ∧ (0 ≤ r (zs_le m) ∧ r (zs_le m) ≤ 7) ∧ 0 ≤ r (185 + 4 * m + q)) ∧ sd < 27
noncomputable def zs_hi (r : Nat → Int) (on w sil : Int) (sd q m : Nat) : Nat := min (zs_h r (fun m => r (zs_le m)) (zs_bt on) w sil (zs_d sd) q m) (r (415 + m)).toNat
noncomputable def zs_lo (r : Nat → Int) (on w sil : Int) (m : Nat) : Nat := zs_l r (fun m => r (zs_le m)) (zs_bt on) w sil m
section ZSS
variable {n q sd : Nat} {on w sil : Int} {Z : (Nat → Int) → (Nat → Nat → Int) → Option Int → Prop} {P : pt_P} {r0 : Nat → Int} {M : Nat → Nat → Int}
theorem zs_loop (h : pt_Cl n 11 zxY 1 Z P) (hp : zs_P q sd r0) (hw : 0 ≤ w ∧ w ≤ 7) (hsil : -1 ≤ sil ∧ sil ≤ 2)
    (hz1 : ∀ r2, (∀ m, m < 4 → (r2 (554 + m) = (zs_lo r0 on w sil m : Int) ∧ r2 (558 + m) = (zs_hi r0 on w sil sd q m : Int)) ∧ zs_lo r0 on w sil m ≤ zs_hi r0 on w sil sd q m) → (∀ t, t < 727 → zs_n t → r2 t = r0 t) → Z r2 M (some 1))
    (hz0 : ∀ r2 m, m < 4 → zs_hi r0 on w sil sd q m < zs_lo r0 on w sil m → (∀ t, t < 727 → zs_n t → r2 t = r0 t) → Z r2 M (some 0)) :
    ∀ (d m : Nat) (r : Nat → Int), m + d = 4 → ((r 728 = on ∧ r 729 = w) ∧ r 730 = (sd : Int) ∧ r 731 = sil) → (∀ k, k < m → (r (554 + k) = (zs_lo r0 on w sil k : Int) ∧ r (558 + k) = (zs_hi r0 on w sil sd q k : Int)) ∧ zs_lo r0 on w sil k ≤ zs_hi r0 on w sil sd q k) → (∀ t, t < 727 → zs_n t → r t = r0 t) → P (3, 0, 0) (zs_lh m) [] r M := by
  obtain ⟨hseg, henv, -, -, -, -, -, -, -, -, -, hret, -⟩ := h
  obtain ⟨⟨pq, q4⟩, pm, psd⟩ := hp
  intro d
  induction d with
  | zero =>
    intro m r hd e1 ok fr
    have em : m = 4 := by omega
    subst em
    refine henv _ _ _ _ _ (fun hE _ => ?_)
    refine hseg _ _ _ _ _ r M _ _ _ _ _ zs_c4.2 ⟨pt_m0, pt_m0, pt_m0⟩ ⟨fun _ => ?_, trivial⟩
    have ev : ai_vx r (0, .ofNat 1) = 1 := by
      show r 0 + 1 = 1
      rw [hE.1]
      rfl
    refine hret (157, 0, 0) _ (0, .ofNat 1) r M rfl zs_k.1.1.2 (by decide +kernel) (by decide +kernel) (Or.inr ev) ?_
    rw [ev]
    exact hz1 r ok fr
  | succ d ih =>
    intro m r hd e1 ok fr
    have m4 : m < 4 := by omega
    refine henv _ _ _ _ _ (fun hE _ => ?_)
    have bd := List.all_eq_true.mp zs_bd.1 m (List.mem_range.mpr m4)
    rw [Bool.and_eq_true, Bool.and_eq_true] at bd
    have bK := ze_eb hE bd.1.1
    have bH := ze_eb hE bd.1.2
    have bM := ze_eb hE bd.2
    have bI := ze_eb hE zs_bd.2
    obtain ⟨⟨pd1, pd2⟩, ⟨pl1, pl2⟩, pc⟩ := pm m m4
    have kp : ∀ t, t < 727 → (t = 73 ∨ t = 44 ∨ t = 137 + m ∨ t = 141 + m ∨ t = 145 + m ∨ t = 415 + m ∨ t = zs_le m ∨ t = 185 + 4 * m + q) → r t = r0 t := fun t a b => fr t a (by unfold zs_n; unfold zs_le at b; omega)
    have eI : r 73 = r0 73 := kp _ (by omega) (Or.inl rfl)
    have eQ : r 44 = (q : Int) := (kp _ (by omega) (Or.inr (Or.inl rfl))).trans pq
    have eK : r (137 + m) = r0 (137 + m) := kp _ (by omega) (Or.inr (Or.inr (Or.inl rfl)))
    have eH : r (141 + m) = r0 (141 + m) := kp _ (by omega) (Or.inr (Or.inr (Or.inr (Or.inl rfl))))
    have eM : r (145 + m) = r0 (145 + m) := kp _ (by omega) (Or.inr (Or.inr (Or.inr (Or.inr (Or.inl rfl)))))
    have eD : r (415 + m) = r0 (415 + m) := kp _ (by omega) (Or.inr (Or.inr (Or.inr (Or.inr (Or.inr (Or.inl rfl))))))
    have eL : r (zs_le m) = r0 (zs_le m) := kp _ (by unfold zs_le; omega) (Or.inr (Or.inr (Or.inr (Or.inr (Or.inr (Or.inr (Or.inl rfl)))))))
    have eC : r (185 + 4 * m + q) = r0 (185 + 4 * m + q) := kp _ (by omega) (Or.inr (Or.inr (Or.inr (Or.inr (Or.inr (Or.inr (Or.inr rfl)))))))
    -- a step that goes on
    have on' : ∀ (r2 : Nat → Int), (∀ t, t ≠ 554 + m → t ≠ 558 + m → r2 t = r t) → r2 (554 + m) = (zs_lo r0 on w sil m : Int) → r2 (558 + m) = (zs_hi r0 on w sil sd q m : Int) → zs_lo r0 on w sil m ≤ zs_hi r0 on w sil sd q m → P (3, 0, 0) (zs_lh (m + 1)) [] r2 M := fun r2 f2 a b c => by
      refine ih (m + 1) r2 (by omega) ⟨⟨(f2 _ (by omega) (by omega)).trans e1.1.1, (f2 _ (by omega) (by omega)).trans e1.1.2⟩, (f2 _ (by omega) (by omega)).trans e1.2.1, (f2 _ (by omega) (by omega)).trans e1.2.2⟩ (fun k hk => ?_) (fun t a1 b1 => ?_)
      · by_cases e : k = m
        · rw [e]
          exact ⟨⟨a, b⟩, c⟩
        · obtain ⟨⟨g1, g2⟩, g3⟩ := ok k (by omega)
          exact ⟨⟨(f2 _ (by omega) (by omega)).trans g1, (f2 _ (by omega) (by omega)).trans g2⟩, g3⟩
      · unfold zs_n at b1
        rw [f2 t (by omega) (by omega)]
        exact fr t a1 (by unfold zs_n; exact b1)
    have no' : ∀ (r2 : Nat → Int), (∀ t, t ≠ 554 + m → t ≠ 558 + m → r2 t = r t) → zs_hi r0 on w sil sd q m < zs_lo r0 on w sil m → P (149, 0, 0) (zs_lh m) [wa_k 0] r2 M := fun r2 f2 c => by
      refine henv _ _ _ _ _ (fun hE2 _ => ?_)
      have ev : ai_vx r2 (0, .ofNat 0) = 0 := by
        show r2 0 + 0 = 0
        rw [hE2.1]
        rfl
      refine hret (149, 0, 0) _ (0, .ofNat 0) r2 M rfl zs_k.1.1.1 (by decide +kernel) (by decide +kernel) (Or.inl ev) ?_
      rw [ev]
      refine hz0 r2 m m4 c (fun t a b => ?_)
      unfold zs_n at b
      rw [f2 t (by omega) (by omega)]
      exact fr t a (by unfold zs_n; exact b)
    have row1 := List.all_eq_true.mp zs_c1 m (List.mem_range.mpr m4)
    rw [Bool.and_eq_true] at row1
    have z00 : ¬ ((m : Int) < r0 73 ∧ r0 (141 + m) ≠ sil) → zs_lo r0 on w sil m = 0 ∧ zs_hi r0 on w sil sd q m = 0 := fun c => by
      unfold zs_lo zs_hi zs_l zs_h
      rw [if_neg c, if_neg c]
      exact ⟨rfl, Nat.zero_min _⟩
    have up0 : ∀ (c : ¬ ((m : Int) < r0 73 ∧ r0 (141 + m) ≠ sil)), P (3, 0, 0) (zs_lh (m + 1)) [] (pt_up r (zs_W m (gz_k 0) (gz_k 0))) M := fun c => by
      obtain ⟨z1, z2⟩ := z00 c
      obtain ⟨r2, hr2⟩ : ∃ r2, r2 = pt_up r (zs_W m (gz_k 0) (gz_k 0)) := ⟨_, rfl⟩
      rw [← hr2]
      have v2 : ∀ t, r2 t = if t = 554 + m then 0 else if t = 558 + m then 0 else r t := fun t => by
        rw [hr2]
        rfl
      refine on' r2 (fun t a b => by rw [v2, if_neg a, if_neg b]) (by rw [v2, if_pos rfl, z1]; rfl) (by rw [v2, if_neg (by omega), if_pos rfl, z2]; rfl) (by rw [z1]; exact Nat.zero_le _)
    by_cases c1 : r 73 ≤ (m : Int)
    · refine hseg _ _ _ _ _ r M _ _ _ _ _ row1.1 ⟨pt_m0, pt_m1 ⟨by show (0 : Int) ≤ r 73; omega, by show r 73 ≤ (m : Int); omega⟩, pt_m0⟩ ⟨fun _ => ?_, trivial⟩
      exact up0 (fun q => by omega)
    have bm1 : ((m + 1 : Nat) : Int) ≤ r 73 ∧ r 73 ≤ 4 := by omega
    by_cases c2 : r (141 + m) = sil
    · refine hseg _ _ _ _ _ r M _ _ _ _ _ row1.2 ⟨pt_m0, pt_m1 bm1, pt_m2 (by show r (141 + m) + 0 ≤ r 731 + 0; omega) (by show r 731 + 0 ≤ r (141 + m) + 0; omega)⟩ ⟨fun _ => ?_, trivial⟩
      exact up0 (fun q => q.2 (by omega))
    have cc : (m : Int) < r0 73 ∧ r0 (141 + m) ≠ sil := ⟨by omega, by omega⟩
    obtain ⟨hh, hhh⟩ : ∃ hh : Nat, r (141 + m) = (hh : Int) := ⟨(r (141 + m)).toNat, by omega⟩
    have h3 : hh < 3 := by omega
    obtain ⟨b, hb, hbs⟩ : ∃ b, b < 2 ∧ ((zs_sl hh b).1 ≤ r 731 ∧ r 731 ≤ (zs_sl hh b).2) := by
      rcases (by omega : sil < (hh : Int) ∨ (hh : Int) < sil) with e | e
      · exact ⟨0, by omega, by show (-1 : Int) ≤ r 731; omega, by show r 731 ≤ (hh : Int) - 1; omega⟩
      · exact ⟨1, by omega, by show (hh : Int) + 1 ≤ r 731; omega, by show r 731 ≤ 3; omega⟩
    have hcp : ∀ x ∈ (731, zs_sl hh b) :: zs_B m, x.2.1 ≤ r x.1 ∧ r x.1 ≤ x.2.2 := fun x hx => by
      simp only [zs_B, List.mem_cons, List.not_mem_nil, or_false] at hx
      rcases hx with rfl | rfl | rfl | rfl | rfl | rfl
      · exact hbs
      · exact bm1
      · exact ⟨by show (0 : Int) ≤ r (415 + m); omega, by show r (415 + m) ≤ 7; omega⟩
      · exact ⟨by show (0 : Int) ≤ r 730; omega, by show r 730 ≤ 26; omega⟩
      · exact ⟨by show (0 : Int) ≤ r (zs_le m); omega, by show r (zs_le m) ≤ 7; omega⟩
      · exact ⟨by show (0 : Int) ≤ r 729; omega, by show r 729 ≤ 7; omega⟩
    obtain ⟨dv, d2⟩ := zs_dv sd psd hh h3
    have eHn : (r0 (141 + m)).toNat = hh := by omega
    -- what is hidden of the most
    have hid : ai_op 1 (r (145 + m)) (ai_op 4 (ai_op 3 (r 730) (.ofNat (zs_w hh))) 3) = r0 (145 + m) - (zs_d sd hh : Int) := by
      have g : ai_op 4 (ai_op 3 (r 730) (.ofNat (zs_w hh))) 3 = (zs_d sd hh : Int) := by
        rw [e1.2.1]
        exact dv
      rw [g, wq_o1 (by omega) (by omega), eM]
    have bt : pt_v r (zs_bx m) = zs_bt on m := by
      show ai_op 5 (ai_op 9 (r 728) (.ofNat m)) 1 = _
      rw [e1.1.1]
      rfl
    have rows2 := List.all_eq_true.mp (List.all_eq_true.mp (List.all_eq_true.mp zs_c2 m (List.mem_range.mpr m4)) hh (List.mem_range.mpr h3)) b (List.mem_range.mpr hb)
    rw [Bool.and_eq_true] at rows2
    rcases (by omega : r (137 + m) ≤ 1 ∨ r (137 + m) = 2 ∨ r (137 + m) = 3) with ck | ck | ck
    · obtain ⟨k, hk⟩ : ∃ k : Nat, r (137 + m) = (k : Int) := ⟨(r (137 + m)).toNat, by omega⟩
      have lo0 : zs_lo r0 on w sil m = if zs_bt on m = 0 then 0 else (r0 (zs_le m)).toNat := by
        unfold zs_lo zs_l
        rw [if_pos cc, if_pos (by omega)]
      have hi0 : zs_hi r0 on w sil sd q m = min (if zs_bt on m = 0 then 0 else max (r0 (zs_le m)).toNat ((r0 (145 + m)).toNat - zs_d sd hh)) (r0 (415 + m)).toNat := by
        unfold zs_hi zs_h
        rw [if_pos cc, if_pos (by omega), eHn]
      have hx : pt_v r (zs_hx m hh) = ((min (max (r0 (zs_le m)).toNat ((r0 (145 + m)).toNat - zs_d sd hh)) (r0 (415 + m)).toNat : Nat) : Int) := by
        show ai_min (ai_max (r (zs_le m)) (ai_op 1 (r (145 + m)) (ai_op 4 (ai_op 3 (r 730) (.ofNat (zs_w hh))) 3))) (r (415 + m)) = _
        rw [hid, ze_max, ze_min, eL, eD]
        split <;> split <;> omega
      have up : ∀ (x y : pt_X) (t : Nat), pt_up r ((137 + m, gz_k (.ofNat k)) :: (141 + m, gz_k (.ofNat hh)) :: zs_W m x y) t = if t = 554 + m then pt_v r x else if t = 558 + m then pt_v r y else r t := fun x y t => by
        show (if t = 137 + m then (k : Int) else if t = 141 + m then (hh : Int) else if t = 554 + m then pt_v r x else if t = 558 + m then pt_v r y else r t) = _
        by_cases a : t = 137 + m
        · rw [if_pos a, if_neg (by omega), if_neg (by omega), a, hk]
        · rw [if_neg a]
          by_cases a2 : t = 141 + m
          · rw [if_pos a2, if_neg (by omega), if_neg (by omega), a2, hhh]
          · rw [if_neg a2]
      refine hseg _ _ _ _ _ r M _ _ _ _ _ (List.all_eq_true.mp rows2.1 k (List.mem_range.mpr (by omega))) ⟨pt_m2 hk hhh, hcp, pt_m0⟩ ⟨fun g => ?_, fun g => ?_, fun g => ?_, trivial⟩
      · have g1 : 0 ≤ pt_v r (zs_bx m) := g.1
        have g2 : pt_v r (zs_bx m) ≤ 0 := g.2.1
        rw [bt] at g1 g2
        have z : zs_bt on m = 0 := by omega
        rw [if_pos z] at lo0 hi0
        have hi1 : zs_hi r0 on w sil sd q m = 0 := hi0.trans (Nat.zero_min _)
        refine on' _ (fun t a b => (up _ _ t).trans (by rw [if_neg a, if_neg b])) ((up _ _ _).trans (by rw [if_pos rfl, lo0]; rfl)) ((up _ _ _).trans (by rw [if_neg (by omega), if_pos rfl, hi1]; rfl)) (by rw [lo0]; exact Nat.zero_le _)
      · have g1 : 1 ≤ pt_v r (zs_bx m) := g.1
        have g2 : r (zs_le m) ≤ pt_v r (zs_hx m hh) := g.2.1
        rw [bt] at g1
        rw [if_neg (by omega)] at lo0 hi0
        rw [hx, ← hi0] at g2
        refine on' _ (fun t a b => (up _ _ t).trans (by rw [if_neg a, if_neg b])) ((up _ _ _).trans (by rw [if_pos rfl, lo0]; show r (zs_le m) = _; omega)) ((up _ _ _).trans (by rw [if_neg (by omega), if_pos rfl, hx, ← hi0])) (by rw [lo0]; omega)
      · have g1 : 1 ≤ pt_v r (zs_bx m) := g.1
        have g2 : pt_v r (zs_hx m hh) ≤ r (zs_le m) + -1 := g.2.1
        rw [bt] at g1
        rw [if_neg (by omega)] at lo0 hi0
        rw [hx, ← hi0] at g2
        exact no' _ (fun t a b => (up _ _ t).trans (by rw [if_neg a, if_neg b])) (by rw [lo0]; omega)
    · have lo0 : zs_lo r0 on w sil m = w.toNat := by
        unfold zs_lo zs_l
        rw [if_pos cc, if_neg (by omega), if_pos (by omega)]
      have hi0 : zs_hi r0 on w sil sd q m = min w.toNat (r0 (415 + m)).toNat := by
        unfold zs_hi zs_h
        rw [if_pos cc, if_neg (by omega), if_pos (by omega)]
      have hx : pt_v r (zs_wx m) = ((min w.toNat (r0 (415 + m)).toNat : Nat) : Int) := by
        show ai_min (r 729) (r (415 + m)) = _
        rw [ze_min, eD, e1.1.2]
        split <;> omega
      have up : ∀ (x y : pt_X) (t : Nat), pt_up r ((137 + m, gz_k 2) :: (141 + m, gz_k (.ofNat hh)) :: zs_W m x y) t = if t = 554 + m then pt_v r x else if t = 558 + m then pt_v r y else r t := fun x y t => by
        show (if t = 137 + m then (2 : Int) else if t = 141 + m then (hh : Int) else if t = 554 + m then pt_v r x else if t = 558 + m then pt_v r y else r t) = _
        by_cases a : t = 137 + m
        · rw [if_pos a, if_neg (by omega), if_neg (by omega), a, ck]
        · rw [if_neg a]
          by_cases a2 : t = 141 + m
          · rw [if_pos a2, if_neg (by omega), if_neg (by omega), a2, hhh]
          · rw [if_neg a2]
      refine hseg _ _ _ _ _ r M _ _ _ _ _ rows2.2 ⟨pt_m2 ck hhh, hcp, pt_m0⟩ ⟨fun g => ?_, fun g => ?_, trivial⟩
      · have g2 : r 729 ≤ pt_v r (zs_wx m) := g.1
        rw [hx, ← hi0] at g2
        refine on' _ (fun t a b => (up _ _ t).trans (by rw [if_neg a, if_neg b])) ((up _ _ _).trans (by rw [if_pos rfl, lo0]; show r 729 = _; omega)) ((up _ _ _).trans (by rw [if_neg (by omega), if_pos rfl, hx, ← hi0])) (by rw [lo0]; omega)
      · have g2 : pt_v r (zs_wx m) ≤ r 729 + -1 := g.1
        rw [hx, ← hi0] at g2
        exact no' _ (fun t a b => (up _ _ t).trans (by rw [if_neg a, if_neg b])) (by rw [lo0]; omega)
    · have row3 := List.all_eq_true.mp (List.all_eq_true.mp (List.all_eq_true.mp (List.all_eq_true.mp zs_c3 m (List.mem_range.mpr m4)) hh (List.mem_range.mpr h3)) b (List.mem_range.mpr hb)) q (List.mem_range.mpr q4)
      have lo0 : zs_lo r0 on w sil m = 0 := by
        unfold zs_lo zs_l
        rw [if_pos cc, if_neg (by omega), if_neg (by omega)]
      have hi0 : zs_hi r0 on w sil sd q m = min (min (min (r0 (145 + m)).toNat (r0 (185 + 4 * m + q)).toNat) ((r0 (145 + m)).toNat - zs_d sd hh)) (r0 (415 + m)).toNat := by
        unfold zs_hi zs_h
        rw [if_pos cc, if_neg (by omega), if_neg (by omega), eHn]
      have hx : pt_v r (zs_cx m hh q) = (zs_hi r0 on w sil sd q m : Int) := by
        show ai_min (ai_max 0 (ai_min (ai_min (r (145 + m)) (r (185 + 4 * m + q))) (ai_op 1 (r (145 + m)) (ai_op 4 (ai_op 3 (r 730) (.ofNat (zs_w hh))) 3)))) (r (415 + m)) = _
        rw [hid, hi0, ze_max, ze_min, ze_min, ze_min, eM, eC, eD]
        (repeat' split) <;> omega
      have up : ∀ (x y : pt_X) (t : Nat), pt_up r ((137 + m, gz_k 3) :: (141 + m, gz_k (.ofNat hh)) :: (44, gz_k (.ofNat q)) :: zs_W m x y) t = if t = 554 + m then pt_v r x else if t = 558 + m then pt_v r y else r t := fun x y t => by
        show (if t = 137 + m then (3 : Int) else if t = 141 + m then (hh : Int) else if t = 44 then (q : Int) else if t = 554 + m then pt_v r x else if t = 558 + m then pt_v r y else r t) = _
        by_cases a : t = 137 + m
        · rw [if_pos a, if_neg (by omega), if_neg (by omega), a, ck]
        · rw [if_neg a]
          by_cases a2 : t = 141 + m
          · rw [if_pos a2, if_neg (by omega), if_neg (by omega), a2, hhh]
          · rw [if_neg a2]
            by_cases a3 : t = 44
            · rw [if_pos a3, if_neg (by omega), if_neg (by omega), a3, eQ]
            · rw [if_neg a3]
      refine hseg _ _ _ _ _ r M _ _ _ _ _ row3 ⟨pt_m3 ck hhh eQ, hcp, pt_m0⟩ ⟨fun g => ?_, trivial⟩
      refine on' _ (fun t a b => (up _ _ t).trans (by rw [if_neg a, if_neg b])) ((up _ _ _).trans (by rw [if_pos rfl, lo0]; rfl)) ((up _ _ _).trans (by rw [if_neg (by omega), if_pos rfl, hx])) (by rw [lo0]; exact Nat.zero_le _)
end ZSS
theorem zs_M {n q sd : Nat} {on w sil : Int} (hn : 4 ≤ n) (hw : 0 ≤ w ∧ w ≤ 7) (hsil : -1 ≤ sil ∧ sil ≤ 2) : pt_Met (n + 1) 11 zxY zs_a (fun r _ => ((r 728 = on ∧ r 729 = w) ∧ r 730 = (sd : Int) ∧ r 731 = sil) ∧ zs_P q sd r) (fun r M r2 M2 o => ((o = some 1 ∧ ∀ m, m < 4 → (r2 (554 + m) = (zs_lo r on w sil m : Int) ∧ r2 (558 + m) = (zs_hi r on w sil sd q m : Int)) ∧ zs_lo r on w sil m ≤ zs_hi r on w sil sd q m) ∨ (o = some 0 ∧ ∃ m, m < 4 ∧ zs_hi r on w sil sd q m < zs_lo r on w sil m)) ∧ (∀ t, t < 727 → zs_n t → r2 t = r t) ∧ M2 = M) 1 := by
  refine pt_intro (L0 := [wa_r 87, wa_i 728, wa_i 729, wa_i 730, wa_i 731, wa_u, wa_u]) zs_k.2.1 hn zxsys (by
    rw [zs_k.1.2]
    rfl) (fun P r M h hp => ?_)
  obtain ⟨hp1, hp2⟩ := hp
  refine h.1 _ _ _ _ _ r M _ _ _ _ _ zs_c4.1 ⟨pt_m0, pt_m0, pt_m0⟩ ⟨fun _ => ?_, trivial⟩
  show P (3, 0, 0) (zs_lh 0) [] (pt_up r []) M
  exact zs_loop h hp2 hw hsil (fun r2 a b => ⟨Or.inl ⟨rfl, a⟩, b, rfl⟩) (fun r2 m m4 a b => ⟨Or.inr ⟨rfl, m, m4, a⟩, b, rfl⟩) 4 0 _ rfl hp1 (fun k hk => absurd hk (Nat.not_lt_zero k)) (fun _ _ _ => rfl)
