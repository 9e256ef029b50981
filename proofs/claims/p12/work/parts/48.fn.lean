/-! RUNS THAT LOG what they compare, call and read: what comes out is a function of what is known at first -/
section TR
variable {r1 r2 : Nat → Int} {ad1 ad2 : Nat → Nat} {N0 N1 N2 n : Nat}
theorem fn_trV (hr : ai_ext N0 r1 r2) (ha : ai_ext n ad1 ad2) (hN : N0 ≤ N2) {a : ai_V} {v : Value} (w : ai_wfV N0 n a) (h : ai_gV r1 ad1 N1 n a v) : ai_gV r2 ad2 N2 n a v := by
  rcases a with x | x | _ | _ | q
  · obtain ⟨h1, i, h2, h3⟩ := h
    have w : x.1 < N0 := w
    exact ⟨by omega, i, h2, by rw [h3]; exact (hr.vx w).symm⟩
  · obtain ⟨h1, i, h2, h3⟩ := h
    have w : x.1 < N0 := w
    exact ⟨by omega, i, h2, by rw [h3]; exact (hr.vx w).symm⟩
  · trivial
  · exact h
  · obtain ⟨h1, h2⟩ := h
    exact ⟨h1, by rw [h2, ha q h1]⟩
theorem fn_trF (hr : ai_ext N0 r1 r2) (ha : ai_ext n ad1 ad2) (hN : N0 ≤ N2) : ∀ {l : List ai_V} {m : List Value}, (∀ a ∈ l, ai_wfV N0 n a) → ai_gF r1 ad1 N1 n l m → ai_gF r2 ad2 N2 n l m
  | [], [], _, _ => trivial
  | a :: _, _ :: _, w, h => ⟨fn_trV hr ha hN (w a List.mem_cons_self) h.1, fn_trF hr ha hN (fun b hb => w b (List.mem_cons_of_mem _ hb)) h.2⟩
  | [], _ :: _, _, h => h.elim
  | _ :: _, [], _, h => h.elim
theorem fn_trK (hr : ai_ext N0 r1 r2) (hN : N0 ≤ N2) {lo hi : Int} {l : List (ai_X × ai_X)} {m : Nat} {g : Nat → Int} (w : ai_lw N0 l) (h : ai_gK r1 N1 lo hi l m g) : ai_gK r2 N2 lo hi l m g :=
  ⟨fun q hq => ⟨Nat.lt_of_lt_of_le (w q hq).1 hN, Nat.lt_of_lt_of_le (w q hq).2 hN⟩, fun j hj => ai_ov_ext hr w (h.2 j hj)⟩
theorem fn_trC {tyc : Nat → ClassId} (hr : ai_ext N0 r1 r2) (ha : ai_ext n ad1 ad2) (hN : N0 ≤ N2) {c : ai_C} {e : va_E} (w : ai_wfC N0 n c) (h : ai_gC tyc r1 ad1 N1 n c e) : ai_gC tyc r2 ad2 N2 n c e := by
  rcases c with ⟨ci, fs⟩ | ⟨ty, m, lo, hi, l⟩ | ⟨ty, l⟩
  · obtain ⟨vs, h1, h2⟩ := h
    exact ⟨vs, h1, fn_trF hr ha hN w h2⟩
  · rcases h with ⟨h1, f, h2, h3⟩ | ⟨h1, f, h2, h3⟩
    · exact Or.inl ⟨h1, f, h2, fn_trK hr hN w h3⟩
    · exact Or.inr ⟨h1, f, h2, fn_trK hr hN w h3⟩
  · obtain ⟨h1, f, h2, h3⟩ := h
    exact ⟨h1, f, h2, fun k q hk => ⟨(h3 k q hk).1, fun a e => ⟨((h3 k q hk).2 a e).1, by rw [ha a ((h3 k q hk).2 a e).1]; exact ((h3 k q hk).2 a e).2⟩⟩⟩
theorem fn_trH {tyc : Nat → ClassId} {ws0 ws : va_W} {h : ai_H} (hw : sm_wh N0 h = true) (hr : ai_ext N0 r1 r2) (ha : ai_ext h.1 ad1 ad2) (hN : N0 ≤ N2) (g : ai_gH tyc r1 ad1 N1 ws0 h ws) : ai_gH tyc r2 ad2 N2 ws0 h ws :=
  ⟨g.1, fun k q hk => by
    have h1 := g.2.1 k q hk
    have hl : k < ws.length := (List.getElem?_eq_some_iff.mp hk).1
    have h3 := g.1.2.2
    rw [h1, ha (k + 16) (by omega)], fun k hk c hc => by
    obtain ⟨e, h1, h2⟩ := g.2.2.1 k hk c hc
    exact ⟨e, by rw [ha (k + 16) hk]; exact h1, fn_trC hr ha hN (sm_wh_ok hw (k + 16) c hk hc) h2⟩, g.2.2.2⟩
theorem fn_trO {xo : List (Nat × Nat × Nat × (Nat → Int32))} {h : ai_H} (hw : sm_wh N0 h = true) (h16 : 16 ≤ h.1) (hr : ai_ext N0 r1 r2) (ha : ai_ext h.1 ad1 ad2) (hN : N0 ≤ N2) (g : ai_gO xo r1 ad1 N1 h) : ai_gO xo r2 ad2 N2 h := fun q hq c hc => by
  obtain ⟨z, hz, lo, hi, l, h1, h2, h5⟩ := g q hq c hc
  have w := sm_wh_ok hw q c (by omega) hc
  subst h1
  exact ⟨z, hz, lo, hi, l, rfl, by rw [ha q (by omega)]; exact h2, fn_trK hr hN w h5⟩
theorem fn_trW {D : va_G} {tyc : Nat → ClassId} {A : Nat → Prop} {sa : ai_B} {ws0 : va_W} {E1 E2 : ai_E} {h : ai_H} {c1 s1 c2 s2 : Nat} {H : Heap} (hw : sm_wh N0 h = true) (hr : ai_ext N0 r1 r2) (ha : ai_ext h.1 ad1 ad2) (hN : N0 ≤ E2.1) (hE : ai_gE r2 E2) (g : ai_Wd D tyc A sa ws0 r1 ad1 (E1, h, c1, s1) H) : ai_Wd D tyc A sa ws0 r2 ad2 (E2, h, c2, s2) H := by
  obtain ⟨ws, hP, hD, -, hH, hO, hsa⟩ := g
  have hH : ai_gH tyc r1 ad1 E1.1 ws0 h ws := hH
  have hO : ai_gO sa.2 r1 ad1 E1.1 h := hO
  have h16 : 16 ≤ h.1 := hH.1.1
  exact ⟨ws, hP, hD, hE, fn_trH hw hr ha hN hH, fn_trO hw h16 hr ha hN hO, fun i hi => by rw [ha (i + 1) (by omega)]; exact hsa i hi⟩
end TR
theorem fn_rev {α : Type} {N : Nat} {r r' : Nat → α} (h : ai_ext N r r') : ai_ext N r' r := fun t ht => (h t ht).symm
/-! heaps that are one -/
noncomputable def fn_heqO (a b : Option ai_C) : Bool := match a, b with
  | none, none => true
  | some (.inl (i, fs)), some (.inl (j, gs)) => Nat.beq i j && decide (fs = gs)
  | some (.inr (.inl (ty, n, lo, hi, l))), some (.inr (.inl (tz, k, lo', hi', m))) => Nat.beq ty tz && (Nat.beq n k && (ai_eq lo lo' && (ai_eq hi hi' && decide (l = m))))
  | some (.inr (.inr (ty, l))), some (.inr (.inr (tz, m))) => Nat.beq ty tz && decide (l = m)
  | _, _ => false
theorem fn_heqO_ok {a b : Option ai_C} (h : fn_heqO a b = true) : a = b := by
  unfold fn_heqO at h
  split at h
  · rfl
  · simp only [Bool.and_eq_true, decide_eq_true_eq] at h
    rw [Nat.eq_of_beq_eq_true h.1, h.2]
  · simp only [Bool.and_eq_true, decide_eq_true_eq] at h
    rw [Nat.eq_of_beq_eq_true h.1, Nat.eq_of_beq_eq_true h.2.1, ai_eq_iff.mp h.2.2.1, ai_eq_iff.mp h.2.2.2.1, h.2.2.2.2]
  · simp only [Bool.and_eq_true, decide_eq_true_eq] at h
    rw [Nat.eq_of_beq_eq_true h.1, h.2]
  · cases h
noncomputable def fn_heqT : (d : Nat) → ai_T (Option ai_C) d → ai_T (Option ai_C) d → Bool
  | 0, a, b => fn_heqO a b
  | d + 1, a, b => fn_heqT d a.1 b.1 && fn_heqT d a.2 b.2
theorem fn_heqT_ok : ∀ {d : Nat} {a b : ai_T (Option ai_C) d}, fn_heqT d a b = true → a = b
  | 0, a, b, h => by
    unfold fn_heqT at h
    exact fn_heqO_ok h
  | d + 1, a, b, h => by
    unfold fn_heqT at h
    rw [Bool.and_eq_true] at h
    exact Prod.ext (fn_heqT_ok h.1) (fn_heqT_ok h.2)
noncomputable def fn_heq (h h' : ai_H) : Bool := Nat.beq h.1 h'.1 && fn_heqT 9 h.2 h'.2
theorem fn_heq_ok {h h' : ai_H} (g : fn_heq h h' = true) : h = h' := by
  unfold fn_heq at g
  rw [Bool.and_eq_true] at g
  exact Prod.ext (Nat.eq_of_beq_eq_true g.1) (fn_heqT_ok g.2)
/-! THE LOG: below 100 a comparison and how it ended; else a function's value -/
abbrev fn_L : Type := Nat × ai_X × ai_X × Bool
noncomputable def fn_m (Φ : Nat → Int → Int) (r : Nat → Int) (e : fn_L) : Prop := match Nat.blt e.1 100 with
  | true => (e.2.2.2 = true ↔ ai_holds e.1 (ai_vx r e.2.1) (ai_vx r e.2.2.1))
  | false => ai_vx r e.2.2.1 = Φ e.1 (ai_vx r e.2.1)
noncomputable def fn_s (N : Nat) (e : fn_L) : Prop := e.2.1.1 < N ∧ e.2.2.1.1 < N
theorem fn_m_ext {Φ : Nat → Int → Int} {N : Nat} {r r' : Nat → Int} {e : fn_L} (hs : fn_s N e) (hx : ai_ext N r r') (h : fn_m Φ r e) : fn_m Φ r' e := by
  unfold fn_m at h ⊢
  rw [hx.vx hs.1, hx.vx hs.2]
  exact h
theorem fn_m_cmp {Φ : Nat → Int → Int} {r : Nat → Int} {o : Nat} {x y : ai_X} {b : Bool} (ho : o < 100) (h : b = true ↔ ai_holds o (ai_vx r x) (ai_vx r y)) : fn_m Φ r (o, x, y, b) := by
  unfold fn_m
  have e : Nat.blt o 100 = true := Nat.ble_eq_true_of_le ho
  show (match Nat.blt o 100 with | true => _ | false => _)
  rw [e]
  exact h
theorem fn_m_fun {Φ : Nat → Int → Int} {r : Nat → Int} {o : Nat} {x y : ai_X} {b : Bool} (ho : 100 ≤ o) (h : ai_vx r y = Φ o (ai_vx r x)) : fn_m Φ r (o, x, y, b) := by
  unfold fn_m
  have e : Nat.blt o 100 = false := by
    cases g : Nat.blt o 100 with
    | false => rfl
    | true => exact absurd (Nat.le_of_ble_eq_true g) (by omega)
  show (match Nat.blt o 100 with | true => _ | false => _)
  rw [e]
  exact h
theorem fn_m_cmp' {Φ : Nat → Int → Int} {r : Nat → Int} {o : Nat} {x y : ai_X} {b : Bool} (ho : o < 100) (h : fn_m Φ r (o, x, y, b)) : b = true ↔ ai_holds o (ai_vx r x) (ai_vx r y) := by
  unfold fn_m at h
  have e : Nat.blt o 100 = true := Nat.ble_eq_true_of_le ho
  have h : (match Nat.blt o 100 with | true => (b = true ↔ ai_holds o (ai_vx r x) (ai_vx r y)) | false => ai_vx r y = Φ o (ai_vx r x)) := h
  rw [e] at h
  exact h
theorem fn_m_fun' {Φ : Nat → Int → Int} {r : Nat → Int} {o : Nat} {x y : ai_X} {b : Bool} (ho : 100 ≤ o) (h : fn_m Φ r (o, x, y, b)) : ai_vx r y = Φ o (ai_vx r x) := by
  unfold fn_m at h
  have e : Nat.blt o 100 = false := by
    cases g : Nat.blt o 100 with
    | false => rfl
    | true => exact absurd (Nat.le_of_ble_eq_true g) (by omega)
  have h : (match Nat.blt o 100 with | true => (b = true ↔ ai_holds o (ai_vx r x) (ai_vx r y)) | false => ai_vx r y = Φ o (ai_vx r x)) := h
  rw [e] at h
  exact h
/-! ONE OUTCOME: ends (what their symbols are, oldest first; the log, oldest first; a tag; values) that start alike end alike -/
abbrev dt_I : Type := List ai_D × List fn_L × Nat × List ai_X
noncomputable def dt_hd (d : ai_D) (i : dt_I) : Bool := match i.1 with
  | e :: _ => decide (e = d)
  | [] => false
noncomputable def dt_hl (e : fn_L) (i : dt_I) : Bool := match i.2.1 with
  | f :: _ => decide (f.1 = e.1) && (decide (f.2.1 = e.2.1) && decide (f.2.2.1 = e.2.2.1))
  | [] => false
noncomputable def dt_b (b : Bool) (i : dt_I) : Bool := match i.2.1 with
  | f :: _ => f.2.2.2 == b
  | [] => false
noncomputable def dt_dd (i : dt_I) : dt_I := (i.1.tail, i.2)
noncomputable def dt_dl (i : dt_I) : dt_I := (i.1, i.2.1.tail, i.2.2)
/-- known: below K, but for one that is left open -/
noncomputable def dt_kn (R K x : Nat) : Bool := Nat.blt x K && !(Nat.beq x R)
theorem dt_kn_ok {R K x : Nat} (h : dt_kn R K x = true) : x < K ∧ x ≠ R := by
  unfold dt_kn at h
  rw [Bool.and_eq_true] at h
  refine ⟨Nat.le_of_ble_eq_true h.1, fun q => ?_⟩
  subst q
  have h2 := h.2
  rw [Nat.beq_refl] at h2
  cases h2
noncomputable def dt_def (R K : Nat) (i : dt_I) (l : List dt_I) : Bool := match i.1 with
  | d :: _ => Nat.beq d.2.1 K && (dt_kn R K d.2.2.1.1 && (dt_kn R K d.2.2.2.1 && l.all (dt_hd d)))
  | [] => false
noncomputable def dt (R : Nat) : Nat → Nat → List dt_I → Bool
  | 0, _, _ => false
  | n + 1, K, l => match l with
    | [] => true
    | i :: t => match dt_def R K i (i :: t) with
      | true => dt R n (K + 1) ((i :: t).map dt_dd)
      | false => match i.2.1 with
        | e :: _ => match Nat.blt e.1 100 with
          | true => dt_kn R K e.2.1.1 && (dt_kn R K e.2.2.1.1 && ((i :: t).all (dt_hl e) && (dt R n K (((i :: t).filter (dt_b true)).map dt_dl) && dt R n K (((i :: t).filter (dt_b false)).map dt_dl))))
          | false => dt_kn R K e.2.1.1 && (decide (e.2.2.1 = (K, 0)) && ((i :: t).all (dt_hl e) && dt R n (K + 1) ((i :: t).map dt_dl)))
        | [] => (i :: t).all (fun j => decide (j.2.2 = i.2.2)) && i.2.2.2.all (fun x => dt_kn R K x.1)
noncomputable def dt_m (Φ : Nat → Int → Int) (r : Nat → Int) (i : dt_I) : Prop := (∀ d ∈ i.1, r d.2.1 = ai_op d.1 (ai_vx r d.2.2.1) (ai_vx r d.2.2.2)) ∧ ∀ e ∈ i.2.1, fn_m Φ r e
theorem dt_m_dd {Φ : Nat → Int → Int} {r : Nat → Int} {i : dt_I} (h : dt_m Φ r i) : dt_m Φ r (dt_dd i) := ⟨fun d hd => h.1 d (List.mem_of_mem_tail hd), h.2⟩
theorem dt_m_dl {Φ : Nat → Int → Int} {r : Nat → Int} {i : dt_I} (h : dt_m Φ r i) : dt_m Φ r (dt_dl i) := ⟨h.1, fun d hd => h.2 d (List.mem_of_mem_tail hd)⟩
theorem dt_vx {R K : Nat} {r1 r2 : Nat → Int} (h : ∀ t, t < K → t ≠ R → r1 t = r2 t) {x : ai_X} (hx : x.1 < K ∧ x.1 ≠ R) : ai_vx r1 x = ai_vx r2 x := by
  unfold ai_vx
  rw [h _ hx.1 hx.2]
theorem dt_hd_at {d : ai_D} {i : dt_I} (h : dt_hd d i = true) : d ∈ i.1 := by
  unfold dt_hd at h
  split at h
  · rename_i e t he
    rw [he, of_decide_eq_true h]
    exact List.mem_cons_self
  · cases h
theorem dt_hl_at {e : fn_L} {i : dt_I} (h : dt_hl e i = true) : ∃ f t, i.2.1 = f :: t ∧ f.1 = e.1 ∧ f.2.1 = e.2.1 ∧ f.2.2.1 = e.2.2.1 := by
  unfold dt_hl at h
  split at h
  · rename_i f t he
    simp only [Bool.and_eq_true, decide_eq_true_eq] at h
    exact ⟨f, t, he, h.1, h.2.1, h.2.2⟩
  · cases h
theorem dt_ok {Φ : Nat → Int → Int} {R : Nat} : ∀ {n K : Nat} {l : List dt_I}, dt R n K l = true → ∀ i ∈ l, ∀ j ∈ l, ∀ r1 r2 : Nat → Int, (∀ t, t < K → t ≠ R → r1 t = r2 t) → dt_m Φ r1 i → dt_m Φ r2 j → i.2.2.1 = j.2.2.1 ∧ i.2.2.2.map (ai_vx r1) = j.2.2.2.map (ai_vx r2) := by
  intro n
  induction n with
  | zero => intro K l h; cases h
  | succ n ih =>
    intro K l h i hi j hj r1 r2 hr mi mj
    unfold dt at h
    split at h
    · cases hi
    · rename_i i0 t0
      split at h
      · rename_i ed
        unfold dt_def at ed
        split at ed
        · rename_i d t ei
          simp only [Bool.and_eq_true] at ed
          obtain ⟨e1, e2, e3, e4⟩ := ed
          have e1 := Nat.eq_of_beq_eq_true e1
          have e2 := dt_kn_ok e2
          have e3 := dt_kn_ok e3
          have a1 := mi.1 d (dt_hd_at (List.all_eq_true.mp e4 i hi))
          have a2 := mj.1 d (dt_hd_at (List.all_eq_true.mp e4 j hj))
          refine ih h (dt_dd i) (List.mem_map.mpr ⟨i, hi, rfl⟩) (dt_dd j) (List.mem_map.mpr ⟨j, hj, rfl⟩) r1 r2 (fun u hu hu2 => ?_) (dt_m_dd mi) (dt_m_dd mj)
          by_cases g : u = K
          · subst g
            rw [← e1, a1, a2, dt_vx hr e2, dt_vx hr e3]
          · exact hr u (by omega) hu2
        · cases ed
      · split at h
        · rename_i e t ei
          split at h
          · rename_i eb
            simp only [Bool.and_eq_true] at h
            obtain ⟨e1, e2, e3, e4, e5⟩ := h
            have e1 := dt_kn_ok e1
            have e2 := dt_kn_ok e2
            have eb : e.1 < 100 := Nat.le_of_ble_eq_true eb
            obtain ⟨f, tf, f0, f1, f2, f3⟩ := dt_hl_at (List.all_eq_true.mp e3 i hi)
            obtain ⟨g, tg, g0, g1, g2, g3⟩ := dt_hl_at (List.all_eq_true.mp e3 j hj)
            have m1 := mi.2 f (by rw [f0]; exact List.mem_cons_self)
            have m2 := mj.2 g (by rw [g0]; exact List.mem_cons_self)
            have m1 := fn_m_cmp' (o := f.1) (x := f.2.1) (y := f.2.2.1) (b := f.2.2.2) (by rw [f1]; exact eb) m1
            have m2 := fn_m_cmp' (o := g.1) (x := g.2.1) (y := g.2.2.1) (b := g.2.2.2) (by rw [g1]; exact eb) m2
            rw [f1, f2, f3, dt_vx hr e1, dt_vx hr e2] at m1
            rw [g1, g2, g3] at m2
            have eq : f.2.2.2 = g.2.2.2 := by
              cases hf : f.2.2.2 with
              | true => exact (m2.mpr (m1.mp hf)).symm
              | false => cases hg : g.2.2.2 with
                | true => exact absurd (m1.mpr (m2.mp hg)) (by rw [hf]; decide)
                | false => rfl
            have bi : ∀ b, f.2.2.2 = b → dt_b b i = true ∧ dt_b b j = true := fun b hb => by
              unfold dt_b
              rw [f0, g0]
              exact ⟨by show (f.2.2.2 == b) = true; rw [hb]; exact beq_self_eq_true b, by show (g.2.2.2 == b) = true; rw [← eq, hb]; exact beq_self_eq_true b⟩
            cases hb : f.2.2.2 with
            | true => exact ih e4 (dt_dl i) (List.mem_map.mpr ⟨i, List.mem_filter.mpr ⟨hi, (bi _ hb).1⟩, rfl⟩) (dt_dl j) (List.mem_map.mpr ⟨j, List.mem_filter.mpr ⟨hj, (bi _ hb).2⟩, rfl⟩) r1 r2 hr (dt_m_dl mi) (dt_m_dl mj)
            | false => exact ih e5 (dt_dl i) (List.mem_map.mpr ⟨i, List.mem_filter.mpr ⟨hi, (bi _ hb).1⟩, rfl⟩) (dt_dl j) (List.mem_map.mpr ⟨j, List.mem_filter.mpr ⟨hj, (bi _ hb).2⟩, rfl⟩) r1 r2 hr (dt_m_dl mi) (dt_m_dl mj)
          · rename_i eb
            simp only [Bool.and_eq_true] at h
            obtain ⟨e1, e2, e3, e4⟩ := h
            have e1 := dt_kn_ok e1
            have e2 : e.2.2.1 = (K, 0) := of_decide_eq_true e2
            have eb : 100 ≤ e.1 := by
              by_cases q : e.1 < 100
              · have q2 : Nat.blt e.1 100 = true := Nat.ble_eq_true_of_le q
                rw [q2] at eb
                cases eb
              · omega
            obtain ⟨f, tf, f0, f1, f2, f3⟩ := dt_hl_at (List.all_eq_true.mp e3 i hi)
            obtain ⟨g, tg, g0, g1, g2, g3⟩ := dt_hl_at (List.all_eq_true.mp e3 j hj)
            have m1 := mi.2 f (by rw [f0]; exact List.mem_cons_self)
            have m2 := mj.2 g (by rw [g0]; exact List.mem_cons_self)
            have m1 := fn_m_fun' (o := f.1) (x := f.2.1) (y := f.2.2.1) (b := f.2.2.2) (by rw [f1]; exact eb) m1
            have m2 := fn_m_fun' (o := g.1) (x := g.2.1) (y := g.2.2.1) (b := g.2.2.2) (by rw [g1]; exact eb) m2
            rw [f1, f2, f3, e2, dt_vx hr e1] at m1
            rw [g1, g2, g3, e2, ← m1] at m2
            have m2 : r2 K + 0 = r1 K + 0 := m2
            refine ih e4 (dt_dl i) (List.mem_map.mpr ⟨i, hi, rfl⟩) (dt_dl j) (List.mem_map.mpr ⟨j, hj, rfl⟩) r1 r2 (fun u hu hu2 => ?_) (dt_m_dl mi) (dt_m_dl mj)
            by_cases q : u = K
            · subst q
              omega
            · exact hr u (by omega) hu2
        · rw [Bool.and_eq_true] at h
          have h1 := of_decide_eq_true (List.all_eq_true.mp h.1 i hi)
          have h2 := of_decide_eq_true (List.all_eq_true.mp h.1 j hj)
          rw [h1, h2]
          refine ⟨rfl, List.map_congr_left (fun x hx => dt_vx hr (dt_kn_ok (List.all_eq_true.mp h.2 x hx)))⟩
