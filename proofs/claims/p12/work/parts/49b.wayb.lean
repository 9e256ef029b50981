/-! BY HAND: way: bits, what far says, states within the loops' heads -/
noncomputable def wy_nv (z : Int) : Nat := (Int32.ofInt z).toBitVec.toNat
theorem wy_nv_or {a b z : Int} (h : z = ai_op 6 a b) : wy_nv z = wy_nv a ||| wy_nv b := by
  have h : z = (Int32.ofInt a ||| Int32.ofInt b).toInt := h
  unfold wy_nv
  rw [h, Int32.ofInt_toInt, ai_or_bits]
theorem wy_nv_nat {z : Int} (h1 : 0 ≤ z) (h2 : z ≤ 4095) : wy_nv z = z.toNat := by
  have e : (Int32.ofInt z).toInt = z := Int32.toInt_ofInt_of_le (by omega) (by omega)
  have := (ai_nn (x := Int32.ofInt z) (by omega)).1
  unfold wy_nv
  omega
theorem wy_or_ok {r : Nat → Int} {D : List ai_D} {N : Nat} (hD : ∀ d ∈ D, r d.2.1 = ai_op d.1 (ai_vx r d.2.2.1) (ai_vx r d.2.2.2)) : ∀ {n t : Nat}, wy_or D N n t = true → wy_nv (r N) ||| wy_nv (r t) = wy_nv (r t) := by
  intro n
  induction n with
  | zero => intro t h; cases h
  | succ n ih =>
    intro t h
    unfold wy_or at h
    rw [Bool.or_eq_true] at h
    rcases h with h | h
    · rw [Nat.eq_of_beq_eq_true h, Nat.or_self]
    · obtain ⟨d, hd, h⟩ := List.any_eq_true.mp h
      simp only [Bool.and_eq_true] at h
      obtain ⟨h1, h2, h3, h4⟩ := h
      have h1 := Nat.eq_of_beq_eq_true h1
      have h2 := Nat.eq_of_beq_eq_true h2
      have h3 := ai_eq_iff.mp h3
      have e := hD d hd
      rw [h1, h2] at e
      have e2 := wy_nv_or e
      have e3 : ai_vx r d.2.2.1 = r d.2.2.1.1 := by
        unfold ai_vx
        rw [h3, Int.add_zero]
      rw [e3] at e2
      rw [e2, ← Nat.or_assoc, ih h4]
noncomputable def wy_pop : Nat → Nat → Nat
  | 0, _ => 0
  | n + 1, x => x % 2 + wy_pop n (x / 2)
theorem wy_pop_le : ∀ n x, wy_pop n x ≤ n
  | 0, _ => Nat.le_refl _
  | n + 1, x => by
    have := wy_pop_le n (x / 2)
    show x % 2 + wy_pop n (x / 2) ≤ n + 1
    omega
theorem wy_pop_or : ∀ n a z : Nat, a ||| z = z → a < 2 ^ n → z < 2 ^ n → a ≠ z → wy_pop n a + 1 ≤ wy_pop n z
  | 0, a, z, _, h1, h2, h3 => by
    rw [Nat.pow_zero] at h1 h2
    omega
  | n + 1, a, z, h, h1, h2, h3 => by
    have d : a / 2 ||| z / 2 = z / 2 := by
      rw [← Nat.or_div_two, h]
    have m : a % 2 = 1 → z % 2 = 1 := fun q => by
      have := (Nat.or_mod_two_eq_one (a := a) (b := z)).mpr (Or.inl q)
      rw [h] at this
      exact this
    rw [Nat.pow_succ] at h1 h2
    show a % 2 + wy_pop n (a / 2) + 1 ≤ z % 2 + wy_pop n (z / 2)
    by_cases e : a / 2 = z / 2
    · rw [e]
      omega
    · have := wy_pop_or n (a / 2) (z / 2) d (by omega) (by omega) e
      omega
/-- what far says of a state: it is an end, or an act leads on to one that is nearer -/
noncomputable def wy_good (Φ : Nat → Int → Int) (f : Nat → Int32) (x : Nat) : Prop := (f x).toInt = -1 ∨ (0 ≤ (f x).toInt ∧ (f x).toInt + (wy_pop 12 x : Int) ≤ 12 ∧ ((f x).toInt = 0 ∨ ∃ a t : Nat, a < 13 ∧ t < 4096 ∧ Φ a (x : Int) = (t : Int) ∧ 0 ≤ (f t).toInt ∧ (f t).toInt + 1 = (f x).toInt))
noncomputable def wy_spec (Φ : Nat → Int → Int) : Prop := ∀ a, a < 14 → ∀ x : Nat, x < 4096 → Φ a (x : Int) = -1 ∨ ∃ t : Nat, t < 4096 ∧ Φ a (x : Int) = (t : Int) ∧ x ||| t = t
theorem wy_spec_at {Φ : Nat → Int → Int} (hs : wy_spec Φ) {a x t : Nat} (ha : a < 14) (hx : x < 4096) (h : Φ a (x : Int) = (t : Int)) : x ≤ t ∧ x ||| t = t := by
  rcases hs a ha x hx with q | ⟨t', h1, h2, h3⟩
  · omega
  · have : t = t' := by omega
    subst this
    refine ⟨?_, h3⟩
    have := Nat.left_le_or (n := x) (m := t)
    omega
theorem wy_good_out {Φ : Nat → Int → Int} (hs : wy_spec Φ) {f f1 : Nat → Int32} {j x : Nat} (ho : ∀ y, y ≠ j → f1 y = f y) (hx : x < 4096) (hj : j < x) (h : wy_good Φ f x) : wy_good Φ f1 x := by
  unfold wy_good at h ⊢
  rw [ho x (by omega)]
  rcases h with h | ⟨h1, h2, h3⟩
  · exact Or.inl h
  · refine Or.inr ⟨h1, h2, ?_⟩
    rcases h3 with h3 | ⟨a, t, a1, a2, a3, a4, a5⟩
    · exact Or.inl h3
    · have := (wy_spec_at hs (by omega) hx a3).1
      exact Or.inr ⟨a, t, a1, a2, a3, by rw [ho t (by omega)]; exact a4, by rw [ho t (by omega)]; exact a5⟩
theorem wy_good_upd {Φ : Nat → Int → Int} (hs : wy_spec Φ) {f f1 : Nat → Int32} {j a t : Nat} (ho : ∀ y, y ≠ j → f1 y = f y) (hj : j < 4096) (ha : a < 13) (ht : t < 4096) (hΦ : Φ a (j : Int) = (t : Int)) (hne : t ≠ j) (hft : 0 ≤ (f t).toInt) (hf : (f1 j).toInt = (f t).toInt + 1) (hg : ∀ x, j ≤ x → x < 4096 → wy_good Φ f x) : (∀ x, j ≤ x → x < 4096 → wy_good Φ f1 x) ∧ 1 ≤ (f1 j).toInt ∧ (f1 j).toInt ≤ 12 := by
  obtain ⟨h1, h2⟩ := wy_spec_at hs (by omega) hj hΦ
  have hp := wy_pop_or 12 j t h2 (by omega) (by omega) (Ne.symm hne)
  have hgt : (f t).toInt + (wy_pop 12 t : Int) ≤ 12 := by
    rcases hg t h1 ht with q | ⟨-, q, -⟩
    · omega
    · exact q
  refine ⟨fun x hx hx2 => ?_, by omega, by omega⟩
  by_cases e : x = j
  · subst e
    refine Or.inr ⟨by omega, by omega, Or.inr ⟨a, t, ha, ht, hΦ, by rw [ho t hne]; exact hft, by rw [ho t hne]; omega⟩⟩
  · exact wy_good_out hs ho hx2 (by omega) (hg x hx hx2)
/-! a state within a wider one, with what some of its numbers are -/
noncomputable def hw_subY (E0 : ai_E) (nb : List (Int × Int)) (h' : ai_H) (L' S' L S : List ai_V) (G : ai_G) (o : List (Nat × ai_X)) : Bool := match xt_in E0.1 L S G L' S' (sm_E E0 nb, h', G.2.2.1, G.2.2.2) with
  | some y => (ai_cov y E0.1 nb.length && (L'.all (sm_wv (E0.1 + nb.length) h'.1) && (S'.all (sm_wv (E0.1 + nb.length) h'.1) && sm_wh (E0.1 + nb.length) h'))) && o.all (fun q => decide (ai_ylook y q.1 = some q.2))
  | none => false
theorem hw_okY {s : State} {D : va_G} {tyc : Nat → ClassId} {A : Nat → Prop} {sa : ai_B} {ws0 : va_W} {nL : Nat} {r0 r : Nat → Int} {ad : Nat → Nat} {L S L' S' : List ai_V} {G : ai_G} {H : Heap} {locs : List Loc} {ls : Array Slot} {st : List Value} {E0 : ai_E} {nb : List (Int × Int)} {h' : ai_H} {o : List (Nat × ai_X)}
    (hE0 : ai_gE r0 E0) (hd : E0.2.2 = []) (hx : ai_ext E0.1 r0 r) (hN : E0.1 ≤ G.1.1) (hR : ai_Rel D tyc A s sa ws0 nL r ad L S G H locs ls st) (hs : hw_subY E0 nb h' L' S' L S G o = true) :
    ∃ r2, ai_ext E0.1 r0 r2 ∧ ai_Rel D tyc A s sa ws0 nL r2 ad L' S' (sm_E E0 nb, h', G.2.2) H locs ls st ∧ ∀ q ∈ o, r2 q.1 = ai_vx r q.2 := by
  unfold hw_subY at hs
  rw [xt_in_eq] at hs
  split at hs
  · rename_i y ey
    simp only [Bool.and_eq_true] at hs
    obtain ⟨⟨c1, c2, c3, c4⟩, c5⟩ := hs
    obtain ⟨r2, a1, a2, a3, a4, -, -⟩ := ai_in_ok ey hR hE0.2.1 hN (Nat.le_add_right _ _) (fun a ha => sm_wv_ok (List.all_eq_true.mp c2 a ha)) (fun a ha => sm_wv_ok (List.all_eq_true.mp c3 a ha)) (sm_wh_ok c4)
      (fun q hq => by
        rcases List.mem_append.mp hq with hq' | hq'
        · have := sm_nb_mem hq'
          refine ⟨this.2, fun g => absurd g (Nat.not_lt.mpr this.1), fun _ => sm_look hq'⟩
        · have := hE0.2.2.2.1 q hq'
          refine ⟨Nat.lt_of_lt_of_le this.1 (Nat.le_add_right _ _), fun g => by rw [hx _ this.1]; exact this.2, fun g => absurd this.1 (Nat.not_lt.mpr g)⟩)
      (fun q hq => by cases hq) (fun _ => 0) (fun u h1 h2 h3 => absurd h3 (ai_cov_ok c1 u h1 h2))
    exact ⟨r2, fun u hu => (a1 u hu).trans (hx u hu), a3, fun q hq => a2 q.1 q.2 (of_decide_eq_true (List.all_eq_true.mp c5 q hq))⟩
  · cases hs
noncomputable def wy_to (k : Nat) (nb : List (Int × Int)) (pc : Nat) (L' : List ai_V) (o : List (Nat × ai_X)) (g : ai_F) : Bool := Nat.beq g.1 pc && (decide (g.2.2.1 = []) && (Nat.ble 108 g.2.2.2.1.1 && (Nat.beq g.2.2.2.2.2.1 0 && (Nat.beq g.2.2.2.2.2.2 0 && hw_subY (wy_E0 k) (wy_R :: nb) wy_hB L' [] g.2.1 [] g.2.2.2 o))))
/-! the loops' heads -/
noncomputable def wy_n31 : List (Int × Int) := [(0, 15), (-1, 4095)]
noncomputable def wy_L31 : List ai_V := wy_L (wy_i 107) (wy_i 109) (wy_i 110) wy_u wy_u wy_u
noncomputable def wy_n77 : List (Int × Int) := [(0, 15), (0, 4095)]
noncomputable def wy_L77 (a : Nat) : List ai_V := wy_L (wy_i 107) (wy_i 109) (wy_i 110) (wy_c 0) (wy_c a) wy_u
noncomputable def wy_n198 : List (Int × Int) := [(0, 15), (0, 4095), (0, 13)]
noncomputable def wy_L198 : List ai_V := wy_L (wy_i 107) (wy_i 109) (wy_i 110) (wy_i 111) wy_u wy_u
noncomputable def wy_n220 : List (Int × Int) := [(0, 15), (0, 4095), (0, 12), (-1, 4095)]
noncomputable def wy_L220 (a : Nat) : List ai_V := wy_L (wy_i 107) (wy_i 109) (wy_i 110) (wy_i 111) (wy_c a) (wy_i 112)
noncomputable def wy_GT : List (Nat × Nat × Int × Int) := [(329, 4096, -1, 12)]
noncomputable def wy_chk (k : Nat) (stop : List Nat) (skip : Bool) (pc : Nat) (L : List ai_V) (nb : List (Int × Int)) (chk : ai_F × List fn_L → Bool) : Bool := match fn_run 252 (wy_OW k) wy_GT wy_hB stop 10000 skip [] pc L [] (wy_G k nb) with
  | some fs => fs.all chk
  | none => false
noncomputable def wy_has (l : List fn_L) (g : ai_F × List fn_L) : Bool := l.all (fun x => decide (x ∈ g.2))
theorem wy_has_ok {l : List fn_L} {g : ai_F × List fn_L} (h : wy_has l g = true) : ∀ x ∈ l, x ∈ g.2 := fun x hx => of_decide_eq_true (List.all_eq_true.mp h x hx)
/-- a write to far -/
noncomputable def wy_wr (k pc : Nat) (v : ai_X) (lg : List fn_L) (tgt : Nat) (nb : List (Int × Int)) (L' : List ai_V) (o : List (Nat × ai_X)) (g : ai_F × List fn_L) : Bool := Nat.beq g.1.1 pc && (decide (g.1.2.2.1 = [.inl v, .inl (110, 0), .inr (.inr (some (some 329)))]) && (wy_has lg g && ((ai_cell g.1.2.2.2.2.1 329).isNone && (Nat.ble 111 g.1.2.2.2.1.1 && (Nat.beq g.1.2.2.2.2.1.1 336 && lz_chk [] 252 [tgt] false (pc + 1) g.1.2.1 [] g.1.2.2.2 (wy_to k nb tgt L' o))))))
noncomputable def wy_lg (a u : Nat) : List fn_L := [(200 + a, (110, 0), (111, 0), true), (0, (111, 0), (0, -1), false), (1329, (111, 0), (112, 0), true), (0, (112, 0), (0, -1), false), (1329, (110, 0), (113, 0), true), (1329, (111, 0), (u, 0), true)]
noncomputable def wy_c13 (k : Nat) (g : ai_F × List fn_L) : Bool := wy_to k wy_n31 31 wy_L31 [(110, (110, -1))] g.1
noncomputable def wy_c77 (k a : Nat) (g : ai_F × List fn_L) : Bool := wy_to k wy_n77 77 (wy_L77 (a + 1)) [(110, (110, 0))] g.1 || (wy_wr k 158 (114, 1) (wy_lg a 114 ++ [(0, (113, 0), (0, -1), true)]) 77 wy_n77 (wy_L77 (a + 1)) [(110, (110, 0))] g ||
  wy_wr k 158 (116, 1) (wy_lg a 116 ++ [(1329, (111, 0), (114, 0), true), (1329, (110, 0), (115, 0), true), (3, (114, 1), (115, 0), false)]) 77 wy_n77 (wy_L77 (a + 1)) [(110, (110, 0))] g)
noncomputable def wy_c31 (k : Nat) (g : ai_F × List fn_L) : Bool := wy_has [(2, (110, 0), (0, 0), true)] g || (wy_wr k 73 (0, -1) [] 77 wy_n77 (wy_L77 0) [(110, (110, 0))] g || wy_wr k 73 (0, 0) [] 31 wy_n31 wy_L31 [(110, (110, -1))] g)
theorem wy_k13 : ∀ k, k < 4 → wy_chk k [31, 77, 158] true 77 (wy_L77 13) wy_n77 (wy_c13 k) = true := by decide +kernel
theorem wy_k31 : ∀ k, k < 4 → wy_chk k [31, 73, 171] true 31 wy_L31 wy_n31 (wy_c31 k) = true := by decide +kernel
/-! the second part -/
noncomputable def wy_put (G : ai_G) : ai_G := (G.1, (G.2.1.1, ai_tset 9 G.2.1.2 329 (some (.inr (.inl (0, 4096, -1, 12, []))))), G.2.2)
noncomputable def wy_dom (h' : ai_H) : Bool := (List.range 320).all (fun x => (ai_cell h' (x + 16)).isSome || (Nat.beq (x + 16) 329 || (ai_cell wy_GP.2.1 (x + 16)).isNone))
noncomputable def wy_fc' (g : ai_F) : Bool := (ai_cell g.2.2.2.2.1 329).isNone && (Nat.beq g.2.2.2.2.1.1 336 && (Nat.ble 107 g.2.2.2.1.1 && (wy_dom g.2.2.2.2.1 && lz_fin [] 252 [] wy_E wy_W g.1 g.2.1 g.2.2.1 (wy_put g.2.2.2))))
noncomputable def wy_c171 (k : Nat) (g : ai_F × List fn_L) : Bool := wy_has [(2, (110, 0), (0, 0), false)] g || ((Nat.beq g.1.1 182 && wy_fc' g.1) ||
  (wy_has [(1329, (0, 0), (111, 0), true), (1, (111, 0), (0, -1), true), (1329, (0, 0), (112, 0), true)] g && wy_to k wy_n198 198 wy_L198 [(108, (112, 0)), (110, (0, 0)), (111, (0, 0))] g.1))
noncomputable def wy_c198 (k : Nat) (g : ai_F × List fn_L) : Bool := (Nat.beq g.1.1 293 && wy_fc' g.1) || (wy_has [(3, (111, 0), (108, 0), false), (200, (110, 0), (112, 0), true)] g && wy_to k wy_n220 220 (wy_L220 0) [(108, (108, 0)), (110, (110, 0)), (111, (111, 0)), (112, (112, 0))] g.1)
noncomputable def wy_o220 (z : Nat) : List (Nat × ai_X) := [(108, (108, 0)), (110, (110, 0)), (111, (111, 0)), (112, (z, 0))]
noncomputable def wy_c220 (k a : Nat) (g : ai_F × List fn_L) : Bool :=
  (wy_has [(0, (112, 0), (0, -1), false), (1329, (112, 0), (113, 0), true), (0, (113, 0), (0, -1), false), (1329, (112, 0), (114, 0), true), (1329, (110, 0), (115, 0), true), (0, (114, 1), (115, 0), true)] g && wy_to k wy_n198 198 wy_L198 [(108, (108, 0)), (110, (112, 0)), (111, (111, 1))] g.1) ||
  ((wy_has [(0, (112, 0), (0, -1), true), (201 + a, (110, 0), (113, 0), true)] g && wy_to k wy_n220 220 (wy_L220 (a + 1)) (wy_o220 113) g.1) ||
  ((wy_has [(1329, (112, 0), (113, 0), true), (0, (113, 0), (0, -1), true), (201 + a, (110, 0), (114, 0), true)] g && wy_to k wy_n220 220 (wy_L220 (a + 1)) (wy_o220 114) g.1) ||
  (wy_has [(1329, (112, 0), (114, 0), true), (1329, (110, 0), (115, 0), true), (0, (114, 1), (115, 0), false), (201 + a, (110, 0), (116, 0), true)] g && wy_to k wy_n220 220 (wy_L220 (a + 1)) (wy_o220 116) g.1)))
theorem wy_k171 : ∀ k, k < 4 → wy_chk k [73, 182, 198] true 31 wy_L31 wy_n31 (wy_c171 k) = true := by decide +kernel
theorem wy_k198 : ∀ k, k < 4 → wy_chk k [198, 220, 293] true 198 wy_L198 wy_n198 (wy_c198 k) = true := by decide +kernel
/-! the beginning -/
noncomputable def wy_to0 (g : ai_F) : Bool := Nat.beq g.1 18 && (decide (g.2.2.1 = []) && (Nat.ble 107 g.2.2.2.1.1 && (Nat.beq g.2.2.2.2.2.1 0 && (Nat.beq g.2.2.2.2.2.2 0 && hw_sub wy_E [(0, 3)] wy_k wy_L18 [] g.2.1 [] g.2.2.2))))
noncomputable def wy_c0 (g : ai_F) : Bool := (Nat.beq g.1 12 && (decide (g.2.2.1 = []) && (Nat.ble 107 g.2.2.2.1.1 && (Nat.beq g.2.2.2.2.1.1 336 && lz_fin [] 252 [] wy_E wy_W 12 g.2.1 [] g.2.2.2)))) || wy_to0 g
theorem wy_k0 : lz_chk [] 252 [12, 18] false 0 wy_L0 [] wy_G0 wy_c0 = true := by decide +kernel
theorem wy_k18 : ∀ k, k < 4 → lz_chk [] 252 [31] false 18 wy_L18 [] (wy_Gk k) (wy_to k wy_n31 31 wy_L31 [(110, (0, 4095))]) = true := by decide +kernel
theorem wy_kp : pn_k wy_pl wy_G18 = true := by decide +kernel
