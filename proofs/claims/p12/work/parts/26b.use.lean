/-! A CONTRACT USED FROM A STATE WITHIN ITS OWN: cells that it doesn't speak of stay as they are -/
noncomputable def sb_v (g : ai_X → ai_X) (v : ai_V) : ai_V := match v with
  | .inl x => .inl (g x)
  | .inr (.inl x) => .inr (.inl (g x))
  | .inr (.inr z) => .inr (.inr z)
noncomputable def sb_c (g : ai_X → ai_X) (c : ai_C) : ai_C := match c with
  | .inl (ci, fs) => .inl (ci, fs.map (sb_v g))
  | .inr (.inl (ty, m, lo, hi, l)) => .inr (.inl (ty, m, lo, hi, l.map (fun q => (g q.1, g q.2))))
  | .inr (.inr z) => .inr (.inr z)
section SB
variable {g : ai_X → ai_X} {r r2 : Nat → Int} {N N2 : Nat}
theorem sb_v_ok {ad : Nat → Nat} {n : Nat} (hg : ∀ x : ai_X, x.1 < N → (g x).1 < N2 ∧ ai_vx r2 (g x) = ai_vx r x) {v : ai_V} {u : Value} (h : ai_gV r ad N n v u) : ai_gV r2 ad N2 n (sb_v g v) u := by
  rcases v with x | x | z
  · obtain ⟨h1, i, h2, h3⟩ := h
    exact ⟨(hg x h1).1, i, h2, h3.trans (hg x h1).2.symm⟩
  · obtain ⟨h1, i, h2, h3⟩ := h
    exact ⟨(hg x h1).1, i, h2, h3.trans (hg x h1).2.symm⟩
  · rcases z with _ | _ | q
    · trivial
    · exact h
    · exact h
theorem sb_f_ok {ad : Nat → Nat} {n : Nat} (hg : ∀ x : ai_X, x.1 < N → (g x).1 < N2 ∧ ai_vx r2 (g x) = ai_vx r x) : ∀ {l : List ai_V} {m : List Value}, ai_gF r ad N n l m → ai_gF r2 ad N2 n (l.map (sb_v g)) m
  | [], [], _ => trivial
  | [], _ :: _, h => h.elim
  | _ :: _, [], h => h.elim
  | _ :: _, _ :: _, h => ⟨sb_v_ok hg h.1, sb_f_ok hg h.2⟩
theorem sb_ov (hg : ∀ x : ai_X, x.1 < N → (g x).1 < N2 ∧ ai_vx r2 (g x) = ai_vx r x) {lo hi : Int} {j : Nat} {v : Int} : ∀ {l : List (ai_X × ai_X)}, ai_lw N l → ai_ov r lo hi l j v → ai_ov r2 lo hi (l.map (fun q => (g q.1, g q.2))) j v
  | [], _, h => h
  | (i, x) :: l, hw, h => by
    have h1 := hw _ List.mem_cons_self
    refine ⟨fun e => ?_, fun e => sb_ov hg (fun q hq => hw q (List.mem_cons_of_mem _ hq)) (h.2 ?_)⟩
    · have e : ai_vx r2 (g i) = (j : Int) := e
      rw [(hg i h1.1).2] at e
      show v = ai_vx r2 (g x)
      rw [(hg x h1.2).2]
      exact h.1 e
    · intro q
      apply e
      show ai_vx r2 (g i) = (j : Int)
      rw [(hg i h1.1).2]
      exact q
theorem sb_k (hg : ∀ x : ai_X, x.1 < N → (g x).1 < N2 ∧ ai_vx r2 (g x) = ai_vx r x) {lo hi : Int} {l : List (ai_X × ai_X)} {m : Nat} {f : Nat → Int} (h : ai_gK r N lo hi l m f) : ai_gK r2 N2 lo hi (l.map (fun q => (g q.1, g q.2))) m f :=
  ⟨fun q hq => by
    obtain ⟨z, hz, rfl⟩ := List.mem_map.mp hq
    exact ⟨(hg _ (h.1 z hz).1).1, (hg _ (h.1 z hz).2).1⟩, fun j hj => sb_ov hg h.1 (h.2 j hj)⟩
theorem sb_c_ok {tyc : Nat → ClassId} {ad : Nat → Nat} {n : Nat} (hg : ∀ x : ai_X, x.1 < N → (g x).1 < N2 ∧ ai_vx r2 (g x) = ai_vx r x) {c : ai_C} {e : va_E} (h : ai_gC tyc r ad N n c e) : ai_gC tyc r2 ad N2 n (sb_c g c) e := by
  rcases c with ⟨ci, fs⟩ | ⟨ty, m, lo, hi, l⟩ | ⟨ty, l⟩
  · obtain ⟨vs, h1, h2⟩ := h
    exact ⟨vs, h1, sb_f_ok hg h2⟩
  · rcases h with ⟨h1, f, h2, h3⟩ | ⟨h1, f, h2, h3⟩
    · exact Or.inl ⟨h1, f, h2, sb_k hg h3⟩
    · exact Or.inr ⟨h1, f, h2, sb_k hg h3⟩
  · exact h
end SB
/-- a state's cells within those that a contract speaks of -/
noncomputable def us_mc (E : ai_E) (B : List (Nat × Int × Int)) (y : ai_Y) (a b : Option ai_C) : Option ai_Y := match b with
  | none => some y
  | some d => ai_mc 1 E B y a (some d)
noncomputable def us_mt (E : ai_E) (B : List (Nat × Int × Int)) : (d : Nat) → ai_Y → ai_T (Option ai_C) d → ai_T (Option ai_C) d → Option ai_Y
  | 0, y, a, b => us_mc E B y a b
  | d + 1, y, a, b => match us_mt E B d y a.1 b.1 with
    | some y => us_mt E B d y a.2 b.2
    | none => none
theorem us_mt_ok {E : ai_E} {B : List (Nat × Int × Int)} : ∀ (d : Nat) {a b : ai_T (Option ai_C) d} {y y' : ai_Y}, us_mt E B d y a b = some y' → ai_yok 1 E B y → ai_yok 1 E B y' ∧ ai_yle y y' ∧ ∀ k, k < 2 ^ d → ∃ y1 y2, us_mc E B y1 (ai_tget d a k) (ai_tget d b k) = some y2 ∧ ai_yok 1 E B y1 ∧ ai_yle y2 y'
  | 0, a, b, y, y', h, hy => by
    have key : ai_yok 1 E B y' ∧ ai_yle y y' := by
      have h : us_mc E B y a b = some y' := h
      unfold us_mc at h
      cases b with
      | none => cases h; exact ⟨hy, ai_yle.rfl'⟩
      | some d =>
        cases a with
        | none => cases h
        | some c =>
          obtain ⟨f1, f2, -⟩ := ai_mc_ok h hy
          exact ⟨f1, f2⟩
    exact ⟨key.1, key.2, fun k hk => ⟨y, y', h, hy, ai_yle.rfl'⟩⟩
  | d + 1, a, b, y, y', h, hy => by
    unfold us_mt at h
    split at h
    · rename_i y1 e1
      obtain ⟨g1, g2, g3⟩ := us_mt_ok d e1 hy
      obtain ⟨f1, f2, f3⟩ := us_mt_ok d h g1
      refine ⟨f1, g2.trans f2, fun k hk => ?_⟩
      have hk' : Nat.div k 2 < 2 ^ d := by
        have e : Nat.div k 2 = k / 2 := rfl
        rw [Nat.pow_succ] at hk
        omega
      simp only [ai_tget_c]
      cases Nat.mod k 2 with
      | zero =>
        obtain ⟨z1, z2, a1, a2, a3⟩ := g3 _ hk'
        exact ⟨z1, z2, a1, a2, a3.trans f2⟩
      | succ j => exact f3 _ hk'
    · cases h
/-- the contract's symbols in the user's words: those of its start by what they stand for, its own ones as new ones -/
noncomputable def us_s (N N' : Nat) (y : ai_Y) (x : ai_X) : ai_X := match Nat.beq x.1 0 with
  | true => x
  | false => match Nat.blt x.1 N' with
    | true => match ai_ylook y x.1 with
      | some (u, k) => (u, k + x.2)
      | none => (0, 0)
    | false => (N + (x.1 - N'), x.2)
noncomputable def us_mg (g : ai_X → ai_X) : (d : Nat) → ai_T (Option ai_C) d → ai_T (Option ai_C) d → ai_T (Option ai_C) d
  | 0, a, b => match b with
    | none => a
    | some c => some (sb_c g c)
  | d + 1, a, b => (us_mg g d a.1 b.1, us_mg g d a.2 b.2)
theorem us_mg_ok {g : ai_X → ai_X} : ∀ {d : Nat} {a b : ai_T (Option ai_C) d} {k : Nat}, ai_tget d (us_mg g d a b) k = match ai_tget d b k with | none => ai_tget d a k | some c => some (sb_c g c)
  | 0, a, b, k => by
    show us_mg g 0 a b = match b with | none => a | some c => some (sb_c g c)
    cases b with
    | none => rfl
    | some c => rfl
  | d + 1, a, b, k => by
    simp only [ai_tget_c]
    cases Nat.mod k 2 with
    | zero => exact us_mg_ok (d := d)
    | succ j => exact us_mg_ok (d := d)
noncomputable def us_r (g : ai_X → ai_X) (x : ai_R) : ai_R := match x with
  | .inl e => .inl e
  | .inr o => .inr (o.map (sb_v g))
noncomputable def us_out (E : ai_E) (h : ai_H) (N' : Nat) (y : ai_Y) (w : sm_W) : ai_R × ai_G := (us_r (us_s E.1 N' y) w.1, ((E.1 + w.2.1.length, sm_nb E.1 w.2.1 ++ E.2.1, E.2.2), (h.1, us_mg (us_s E.1 N' y) 9 h.2 w.2.2.2), 0, 0))
/-- a contract's start: bounds of its symbols (from 1 on), arguments, cells, ends -/
abbrev us_C : Type := List (Int × Int) × List ai_V × ai_H × List sm_W
/-- the cells of the offers' codes are left alone -/
noncomputable def us_free (h : ai_H) : Bool := (ai_cell h 286).isNone && ((ai_cell h 288).isNone && ((ai_cell h 289).isNone && ((ai_cell h 290).isNone && (Nat.blt 290 h.1 && ai_xs.all (fun p => (ai_cell h (p.1 + 16)).isNone)))))
theorem us_free_ok {h : ai_H} (e : us_free h = true) : ai_cell h 286 = none ∧ ai_cell h 288 = none ∧ ai_cell h 289 = none ∧ ai_cell h 290 = none ∧ 290 < h.1 ∧ ∀ p ∈ ai_xs, ai_cell h (p.1 + 16) = none := by
  unfold us_free at e
  simp only [Bool.and_eq_true, Option.isNone_iff_eq_none] at e
  exact ⟨e.1, e.2.1, e.2.2.1, e.2.2.2.1, Nat.le_of_ble_eq_true e.2.2.2.2.1, fun p hp => Option.isNone_iff_eq_none.mp (List.all_eq_true.mp e.2.2.2.2.2 p hp)⟩
noncomputable def us_use (C : us_C) (aa : List ai_V) (G : ai_G) : ai_Q := match G with
  | (E, h, _, _) => match Nat.beq h.1 C.2.2.1.1 && us_free h with
    | false => none
    | true => match ai_mvs 1 E (sm_nb 1 C.1 ++ []) [] aa C.2.1 with
      | none => none
      | some y => match us_mt E (sm_nb 1 C.1 ++ []) 9 y h.2 C.2.2.1.2 with
        | none => none
        | some y => match ai_cov y 1 C.1.length with
          | false => none
          | true => some (C.2.2.2.map (us_out E h (1 + C.1.length) y))
theorem us_nb {N N' : Nat} : ∀ {l : List (Int × Int)} {k : Nat} {q : Nat × Int × Int}, q ∈ sm_nb (N + k) l → (N' + (q.1 - N), q.2) ∈ sm_nb (N' + k) l ∧ N ≤ q.1
  | [], _, _, h => by cases h
  | b :: l, k, q, h => by
    rcases List.mem_cons.mp h with rfl | h
    · refine ⟨?_, Nat.le_add_right _ _⟩
      show (N' + (N + k - N), b) ∈ _
      rw [Nat.add_sub_cancel_left]
      exact List.mem_cons_self
    · obtain ⟨h1, h2⟩ := us_nb (l := l) (k := k + 1) (q := q) h
      exact ⟨List.mem_cons_of_mem _ h1, h2⟩
theorem us_end {D : va_G} {tyc : Nat → ClassId} {A : Nat → Prop} {sa : ai_B} {ws0 ws : va_W} {r r2 r' : Nat → Int} {ad ad' : Nat → Nat} {H : Heap} {E : ai_E} {h : ai_H} {N' : Nat} {B B' : List (Nat × Int × Int)} {y : ai_Y} {w : sm_W} (hE : ai_gE r E) (hH : ai_gH tyc r ad E.1 ws0 h ws) (hO : ai_gO sa.2 r ad E.1 h) (hy : ai_yok 1 E B y) (hcov : ∀ u, 1 ≤ u → u < N' → ai_ylook y u ≠ none)
    (hN : 0 < N') (k0 : r2 0 = r 0) (k2 : ∀ t x, ai_ylook y t = some x → r2 t = ai_vx r x) (x1 : ai_ext N' r2 r') (x2 : ai_ext h.1 ad ad') (hn : w.2.2.1 = h.1) (hW : ai_Wd D tyc A sa ws r' ad' ((N' + w.2.1.length, sm_nb N' w.2.1 ++ B', []), w.2.2, 0, 0) H) :
    ∃ r3, ai_ext E.1 r r3 ∧ ai_Wd D tyc A sa ws0 r3 ad' (us_out E h N' y w).2 H ∧ ∀ x : ai_X, x.1 < N' + w.2.1.length → (us_s E.1 N' y x).1 < E.1 + w.2.1.length ∧ ai_vx r3 (us_s E.1 N' y x) = ai_vx r' x := by
  obtain ⟨r3, hr3⟩ : ∃ r3 : Nat → Int, r3 = fun t => if t < E.1 then r t else r' (N' + (t - E.1)) := ⟨_, rfl⟩
  have p1 : ∀ t, t < E.1 → r3 t = r t := fun t ht => by rw [hr3]; exact if_pos ht
  have p2 : ∀ j, r3 (E.1 + j) = r' (N' + j) := fun j => by
    rw [hr3]
    show (if E.1 + j < E.1 then r (E.1 + j) else r' (N' + (E.1 + j - E.1))) = _
    rw [if_neg (by omega), Nat.add_sub_cancel_left]
  obtain ⟨ws1, hP1, hD1, hE1, hH1, hO1, hsa1⟩ := hW
  have hb : 0 < E.1 := hE.2.1
  have r'0 : r' 0 = 0 := hE1.1
  have hs : ∀ x : ai_X, x.1 < N' + w.2.1.length → (us_s E.1 N' y x).1 < E.1 + w.2.1.length ∧ ai_vx r3 (us_s E.1 N' y x) = ai_vx r' x := by
    intro x hx
    obtain ⟨t, c⟩ := x
    have hx : t < N' + w.2.1.length := hx
    unfold us_s
    cases e0 : Nat.beq t 0 with
    | true =>
      have e0 := Nat.eq_of_beq_eq_true e0
      subst e0
      refine ⟨by show 0 < E.1 + _; omega, ?_⟩
      show r3 0 + c = r' 0 + c
      rw [p1 0 hb, hE.1, r'0]
    | false =>
      have ht : 1 ≤ t := by
        cases t with
        | zero => cases e0
        | succ t => omega
      dsimp only
      cases e1 : Nat.blt t N' with
      | true =>
        have e1 : t < N' := Nat.le_of_ble_eq_true e1
        dsimp only
        cases ey : ai_ylook y t with
        | none => exact absurd ey (hcov t ht e1)
        | some z =>
          obtain ⟨u, k⟩ := z
          obtain ⟨-, z1, -⟩ := hy t _ ey
          have z1 : u < E.1 := z1
          refine ⟨by show u < E.1 + _; omega, ?_⟩
          show r3 u + (k + c) = r' t + c
          have := k2 t _ ey
          have this : r2 t = r u + k := this
          rw [p1 u z1, x1 t e1, this]
          omega
      | false =>
        have e1 : N' ≤ t := by
          by_cases q : t < N'
          · rw [show Nat.blt t N' = true from Nat.ble_eq_true_of_le q] at e1; cases e1
          · omega
        refine ⟨by show E.1 + (t - N') < E.1 + _; omega, ?_⟩
        show r3 (E.1 + (t - N')) + c = r' t + c
        rw [p2, show N' + (t - N') = t by omega]
  refine ⟨r3, p1, ⟨ws1, hP1, hD1, ⟨by rw [p1 0 hb]; exact hE.1, Nat.lt_of_lt_of_le hb (Nat.le_add_right _ _), fun t ht => ?_, fun q hq => ?_, fun q hq => ?_⟩, ⟨?_, hH1.2.1, fun k hk c hc => ?_, fun k hk hc => ?_⟩, fun q hq c hc => ?_, hsa1⟩, hs⟩
  · have ht : t < E.1 + w.2.1.length := ht
    by_cases q : t < E.1
    · rw [p1 t q]; exact hE.2.2.1 t q
    · rw [show t = E.1 + (t - E.1) by omega, p2]
      exact hE1.2.2.1 _ (by show N' + (t - E.1) < N' + w.2.1.length; omega)
  · rcases List.mem_append.mp hq with hq | hq
    · obtain ⟨h1, h2⟩ := us_nb (N := E.1) (N' := N') (k := 0) (q := q) hq
      have h3 := sm_nb_mem hq
      obtain ⟨g1, g2⟩ := hE1.2.2.2.1 _ (List.mem_append_left _ h1)
      refine ⟨h3.2, ?_⟩
      rw [show q.1 = E.1 + (q.1 - E.1) by omega, p2]
      exact g2
    · obtain ⟨g1, g2⟩ := hE.2.2.2.1 q hq
      exact ⟨Nat.lt_of_lt_of_le g1 (Nat.le_add_right _ _), by rw [p1 _ g1]; exact g2⟩
  · obtain ⟨g1, g2, g3, g4⟩ := hE.2.2.2.2 q hq
    have vx : ∀ x : ai_X, x.1 < E.1 → ai_vx r3 x = ai_vx r x := fun x hx => by
      show r3 x.1 + x.2 = r x.1 + x.2
      rw [p1 _ hx]
    exact ⟨Nat.lt_of_lt_of_le g1 (Nat.le_add_right _ _), Nat.lt_of_lt_of_le g2 (Nat.le_add_right _ _), Nat.lt_of_lt_of_le g3 (Nat.le_add_right _ _), by rw [p1 _ g1, vx _ g2, vx _ g3]; exact g4⟩
  · have hl : ws1.length + 16 = w.2.2.1 := hH1.1.2.2
    exact ⟨hH.1.1, hH.1.2.1, by show ws1.length + 16 = h.1; omega⟩
  · have hk : k + 16 < h.1 := hk
    have hc : ai_tget 9 (us_mg (us_s E.1 N' y) 9 h.2 w.2.2.2) (k + 16) = some c := hc
    rw [us_mg_ok] at hc
    cases ew : ai_tget 9 w.2.2.2 (k + 16) with
    | some d =>
      rw [ew] at hc
      cases hc
      obtain ⟨e, g1, g2⟩ := hH1.2.2.1 k (by show k + 16 < w.2.2.1; omega) d ew
      exact ⟨e, g1, by
        have g3 := sb_c_ok (tyc := tyc) (ad := ad') hs g2
        show ai_gC tyc r3 ad' (E.1 + w.2.1.length) h.1 _ e
        rw [← hn]; exact g3⟩
    | none =>
      rw [ew] at hc
      have hc : ai_cell h (k + 16) = some c := hc
      obtain ⟨e, g1, g2⟩ := hH.2.2.1 k hk c hc
      refine ⟨e, ?_, g2.mono (fun t ht => p1 t ht) x2 (Nat.le_add_right _ _) (Nat.le_refl _)⟩
      have g3 := hH1.2.2.2 k (by show k + 16 < w.2.2.1; omega) ew
      rw [g3, g1, x2 _ hk]
  · have hk : k + 16 < h.1 := hk
    have hc : ai_tget 9 (us_mg (us_s E.1 N' y) 9 h.2 w.2.2.2) (k + 16) = none := hc
    rw [us_mg_ok] at hc
    cases ew : ai_tget 9 w.2.2.2 (k + 16) with
    | some d => rw [ew] at hc; cases hc
    | none =>
      rw [ew] at hc
      have hc : ai_cell h (k + 16) = none := hc
      rw [hH1.2.2.2 k (by show k + 16 < w.2.2.1; omega) ew]
      exact hH.2.2.2 k hk hc
  · have hc : ai_tget 9 (us_mg (us_s E.1 N' y) 9 h.2 w.2.2.2) q = some c := hc
    have h16 : 16 ≤ h.1 := hH.1.1
    rw [us_mg_ok] at hc
    cases ew : ai_tget 9 w.2.2.2 q with
    | some d =>
      rw [ew] at hc
      cases hc
      obtain ⟨z, hz, lo, hi, l, rfl, g1, g2⟩ := hO1 q hq d ew
      exact ⟨z, hz, lo, hi, _, rfl, g1, sb_k hs g2⟩
    | none =>
      rw [ew] at hc
      obtain ⟨z, hz, lo, hi, l, rfl, g1, g2⟩ := hO q hq c hc
      exact ⟨z, hz, lo, hi, l, rfl, by rw [x2 q (by omega)]; exact g1, g2.mono (fun t ht => p1 t ht) (Nat.le_add_right _ _)⟩
noncomputable def us_ck (C : us_C) : Bool := C.2.1.all (sm_wv (1 + C.1.length) C.2.2.1.1) && (sm_wh (1 + C.1.length) C.2.2.1 && C.2.2.2.all (fun w => Nat.beq w.2.2.1 C.2.2.1.1))
theorem us_ok {l : Launch} {D : va_G} {tyc : Nat → ClassId} {A : Nat → Prop} {sa : ai_B} {strs : List ai_Z} {nws Wg : List Cond} {y0 : ai_MT} {rm : Room} {C : us_C} (hck : us_ck C = true) (hc : ai_Ct l D tyc A sa strs nws Wg y0 rm C.2.1 (sm_E (1, [], []) C.1, C.2.2.1, 0, 0) (C.2.2.2.map (sm_out (sm_E (1, [], []) C.1))))
    {aa : List ai_V} {G : ai_G} {outs : List (ai_R × ai_G)} (h : us_use C aa G = some outs) : ai_Ct l D tyc A sa strs nws Wg y0 rm aa G outs := by
  obtain ⟨pre, aa', h', W⟩ := C
  obtain ⟨E, hh, cs, sl⟩ := G
  unfold us_ck at hck
  simp only [Bool.and_eq_true] at hck
  obtain ⟨w1, w2, w3⟩ := hck
  unfold us_use at h
  dsimp only at h
  split at h
  · cases h
  · rename_i en
    rw [Bool.and_eq_true] at en
    have efr : us_free hh = true := en.2
    have en : hh.1 = h'.1 := Nat.eq_of_beq_eq_true en.1
    split at h
    · cases h
    · rename_i y1 e1
      split at h
      · cases h
      · rename_i y e2
        split at h
        · cases h
        · rename_i e3
          cases h
          intro ws0 r ad H0 As hPw hWd hA
          obtain ⟨ws, hP, hD, hE, hH, hO, hsa⟩ := hWd
          have hE : ai_gE r E := hE
          obtain ⟨a1, a2, a3, a4⟩ := ai_mvs_ok e1 (fun t x q => by cases q)
          obtain ⟨b1, b2, b3⟩ := us_mt_ok 9 e2 a1
          have hcov : ∀ u, 1 ≤ u → u < 1 + pre.length → ai_ylook y u ≠ none := fun u h1 h2 => ai_cov_ok e3 u h1 h2
          obtain ⟨r2, hr2⟩ : ∃ r2 : Nat → Int, r2 = fun t => if t < 1 then r t else match ai_ylook y t with | some x => ai_vx r x | none => 0 := ⟨_, rfl⟩
          have k1 : ∀ t, t < 1 → r2 t = r t := fun t ht => by rw [hr2]; exact if_pos ht
          have k2 : ∀ t x, ai_ylook y t = some x → r2 t = ai_vx r x := fun t x q => by
            rw [hr2]
            show (if t < 1 then r t else match ai_ylook y t with | some x => ai_vx r x | none => 0) = _
            rw [if_neg (Nat.not_lt.mpr (b1 t x q).1), q]
          have hcn : ai_cons 1 r r2 y := ⟨k1, k2⟩
          have hE' : ai_gE r2 (sm_E (1, [], []) pre) := by
            refine ⟨by rw [k1 0 (by omega)]; exact hE.1, by show 0 < 1 + _; omega, fun t ht => ?_, fun q hq => ?_, fun q hq => (by cases hq)⟩
            · have ht : t < 1 + pre.length := ht
              by_cases q : t < 1
              · rw [k1 t q]
                exact hE.2.2.1 t (Nat.lt_of_lt_of_le q hE.2.1)
              · cases ey : ai_ylook y t with
                | none => exact absurd ey (hcov t (by omega) ht)
                | some x =>
                  rw [k2 t x ey]
                  obtain ⟨-, z1, -, z3, z4⟩ := b1 t x ey
                  have := ai_iv_ok hE z1
                  exact ⟨Int.le_trans z3 this.1, Int.le_trans this.2 z4⟩
            · rcases List.mem_append.mp hq with hq | hq
              · have h1 := sm_nb_mem hq
                refine ⟨h1.2, ?_⟩
                cases ey : ai_ylook y q.1 with
                | none => exact absurd ey (hcov _ h1.1 h1.2)
                | some x =>
                  rw [k2 _ x ey]
                  obtain ⟨-, z1, ⟨z2, z3⟩, -⟩ := b1 _ x ey
                  rw [sm_look hq] at z2 z3
                  have := ai_iv_ok hE z1
                  exact ⟨Int.le_trans z2 this.1, Int.le_trans this.2 z3⟩
              · cases hq
          have hwh := sm_wh_ok w2
          have hwa : ∀ a ∈ aa', ai_wfV (1 + pre.length) h'.1 a := fun a ha => sm_wv_ok (List.all_eq_true.mp w1 a ha)
          have hA' : ai_gF r2 ad (1 + pre.length) h'.1 aa' As := by
            rw [← en]
            exact (a4 r r2 (hcn.le b2)).2 ad _ _ _ As hA (by rw [en]; exact hwa)
          have hWd' : ai_Wd D tyc A sa ws r2 ad (sm_E (1, [], []) pre, h', 0, 0) H0 := by
            refine ⟨ws, hP, hD, hE', ⟨?_, hH.2.1, fun k hk d hd => ?_, fun k hk hd => rfl⟩, fun q hq d hd => ?_, hsa⟩
            · have := hH.1
              rw [← en]; exact this
            · have hk : k + 16 < h'.1 := hk
              have h512 : hh.1 ≤ 512 := hH.1.2.1
              obtain ⟨z1, z2, hm, hz1, hz2⟩ := b3 (k + 16) (by show k + 16 < 512; omega)
              have hd' : ai_tget 9 h'.2 (k + 16) = some d := hd
              rw [hd'] at hm
              cases ec : ai_tget 9 hh.2 (k + 16) with
              | none => rw [ec] at hm; cases hm
              | some c =>
                rw [ec] at hm
                obtain ⟨e, g1, g2⟩ := hH.2.2.1 k (by show k + 16 < hh.1; omega) c ec
                obtain ⟨-, -, f3⟩ := ai_mc_ok (show ai_mc 1 E _ z1 (some c) (some d) = some z2 from hm) hz1
                have g2 : ai_gC tyc r ad E.1 hh.1 c e := g2
                exact ⟨e, g1, by
                  show ai_gC tyc r2 ad (1 + pre.length) h'.1 d e
                  rw [← en]
                  exact f3 r r2 hE (hcn.le hz2) tyc ad _ _ e g2 (by rw [en]; exact hwh _ d hk hd)⟩
            · have h16 : 16 ≤ hh.1 := hH.1.1
              obtain ⟨z1, z2, hm, hz1, hz2⟩ := b3 q (by show q < 512; omega)
              have hd' : ai_tget 9 h'.2 q = some d := hd
              rw [hd'] at hm
              cases ec : ai_tget 9 hh.2 q with
              | none => rw [ec] at hm; cases hm
              | some c =>
                rw [ec] at hm
                obtain ⟨z, hz, lo, hi, l, rfl, g2, g3⟩ := hO q hq c ec
                obtain ⟨-, -, lo', hi', m, rfl, f3⟩ := ai_mnum_ok (show ai_mc 1 E _ z1 (some _) (some d) = some z2 from hm) hz1
                exact ⟨z, hz, lo', hi', m, rfl, g2, f3 r r2 hE (hcn.le hz2) _ _ g3 (hwh q _ (by omega) hd)⟩
          have nk : ∀ k, ai_cell hh (k + 16) = none → k + 16 < hh.1 → ws[k]? = ws0[k]? := fun k h1 h2 => hH.2.2.2 k h2 h1
          have hPw' : ai_Pw tyc ws := by
            obtain ⟨n1, n2, n3, n4, n5, n6⟩ := us_free_ok efr
            exact hPw.same (nk 270 n1 (by omega)) (nk 272 n2 (by omega)) (nk 273 n3 (by omega)) (nk 274 n4 (by omega)) (fun p hp => nk p.1 (n6 p hp) (by have := ai_xs_lt hp; omega))
          have M := hc ws r2 ad H0 As hPw' hWd' hA'
          have fin : ∀ (w : sm_W), w ∈ W → ∀ (t : State) (r' : Nat → Int) (ad' : Nat → Nat), ai_ext (1 + pre.length) r2 r' → ai_ext h'.1 ad ad' → ai_Wd D tyc A sa ws r' ad' (sm_out (sm_E (1, [], []) pre) w).2 t.heap → w.2.2.1 = h'.1 ∧ ∃ r3, ai_ext E.1 r r3 ∧ ai_Wd D tyc A sa ws0 r3 ad' (us_out E hh (1 + pre.length) y w).2 t.heap ∧ ∀ x : ai_X, x.1 < 1 + pre.length + w.2.1.length → (us_s E.1 (1 + pre.length) y x).1 < E.1 + w.2.1.length ∧ ai_vx r3 (us_s E.1 (1 + pre.length) y x) = ai_vx r' x := fun w hw t r' ad' x1 x2 hW => by
            have hn : w.2.2.1 = h'.1 := Nat.eq_of_beq_eq_true (List.all_eq_true.mp w3 w hw)
            exact ⟨hn, us_end hE hH hO b1 hcov (by omega) (k1 0 (by omega)) k2 x1 (by rw [en]; exact x2) (hn.trans en.symm) hW⟩
          refine sm_imp M (fun _ _ q => q) (fun a s o t hq => ?_) (fun X s t hq => ?_)
          · obtain ⟨f, hf, x, v, e5, e6, r', ad', x1, x2, -, -, hW, hF, hv⟩ := hq
            obtain ⟨w, hw, rfl⟩ := List.mem_map.mp hf
            obtain ⟨hn, r3, q1, q2, q3⟩ := fin w hw t r' ad' x1 x2 hW
            have e5 : w.1 = .inr x := e5
            refine ⟨us_out E hh (1 + pre.length) y w, List.mem_map.mpr ⟨w, hw, rfl⟩, x.map (sb_v (us_s E.1 (1 + pre.length) y)), v, ?_, e6, r3, ad', q1, by rw [en]; exact x2, Nat.le_add_right _ _, Nat.le_refl _, q2, hF, ?_⟩
            · show us_r _ w.1 = _
              rw [e5]
              rfl
            · cases x with
              | none => exact hv
              | some b =>
                obtain ⟨u, rfl, hu⟩ := hv
                refine ⟨u, rfl, ?_⟩
                have g3 := sb_v_ok q3 hu
                show ai_gV r3 ad' (E.1 + w.2.1.length) hh.1 _ u
                rw [en, ← hn]
                exact g3
          · obtain ⟨f, hf, x, e5, e6, r', ad', x1, x2, -, -, hW, hF, -⟩ := hq
            obtain ⟨w, hw, rfl⟩ := List.mem_map.mp hf
            obtain ⟨hn, r3, q1, q2, q3⟩ := fin w hw t r' ad' x1 x2 hW
            have e5 : w.1 = .inl x := e5
            refine ⟨us_out E hh (1 + pre.length) y w, List.mem_map.mpr ⟨w, hw, rfl⟩, x, ?_, e6, r3, ad', q1, by rw [en]; exact x2, Nat.le_add_right _ _, Nat.le_refl _, q2, hF, trivial⟩
            show us_r _ w.1 = _
            rw [e5]
            rfl
