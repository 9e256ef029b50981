/-! SUMMARIES: a method's ends within wider ones -/
theorem sm_imp {l : Launch} {y : MethodName} {ws : List Cond} {rm : Room} {Pc Pc' : Array Value → State → Prop} {Qc Qc' : Array Value → State → Outcome → State → Prop} {XC XC' : String → State → State → Prop} {mc ms : Nat} {free : Addr → Prop} (h : vx_Met l y ws rm Pc Qc XC mc ms free) (hP : ∀ a s, Pc' a s → Pc a s) (hQ : ∀ a s o t, Qc a s o t → Qc' a s o t) (hX : ∀ E s t, XC E s t → XC' E s t) : vx_Met l y ws rm Pc' Qc' XC' mc ms free := by
  intro p e ha hc hk s m args below hf hap hp hK
  obtain ⟨n, o, h1, h2, h3, h4⟩ := h p e ha hc hk s m args below hf hap (hP _ _ hp) hK
  refine ⟨n, o, h1, h2, h3, ?_⟩
  rcases h4 with ⟨g1, g2⟩ | ⟨q, g1, E, ce, L, g2, g3⟩
  · exact Or.inl ⟨hQ _ _ _ _ g1, g2⟩
  · exact Or.inr ⟨q, g1, E, ce, L, hX _ _ _ g2, g3⟩
/-- new symbols from a number on, with their bounds -/
noncomputable def sm_nb : Nat → List (Int × Int) → List (Nat × Int × Int)
  | _, [] => []
  | k, b :: l => (k, b) :: sm_nb (k + 1) l
noncomputable def sm_E (E : ai_E) (nb : List (Int × Int)) : ai_E := (E.1 + nb.length, sm_nb E.1 nb ++ E.2.1, [])
theorem sm_nb_mem {q : Nat × Int × Int} : ∀ {l : List (Int × Int)} {k : Nat}, q ∈ sm_nb k l → k ≤ q.1 ∧ q.1 < k + l.length
  | [], _, h => by cases h
  | b :: l, k, h => by
    rcases List.mem_cons.mp h with rfl | h
    · exact ⟨Nat.le_refl _, by show k < k + (l.length + 1); omega⟩
    · have := sm_nb_mem (l := l) (k := k + 1) h
      rw [List.length_cons]
      omega
theorem sm_look {B : List (Nat × Int × Int)} {q : Nat × Int × Int} : ∀ {l : List (Int × Int)} {k : Nat}, q ∈ sm_nb k l → ai_look (sm_nb k l ++ B) q.1 = q.2
  | [], _, h => by cases h
  | (lo, hi) :: l, k, h => by
    rcases List.mem_cons.mp h with rfl | h
    · show ai_look ((k, lo, hi) :: (sm_nb (k + 1) l ++ B)) k = (lo, hi)
      rw [ai_look_c]
      rw [Nat.beq_refl]
    · have h1 := sm_nb_mem (l := l) (k := k + 1) h
      have e : Nat.beq k q.1 = false := by
        cases e : Nat.beq k q.1 with
        | false => rfl
        | true =>
          have := Nat.eq_of_beq_eq_true e
          omega
      show ai_look ((k, lo, hi) :: (sm_nb (k + 1) l ++ B)) q.1 = q.2
      rw [ai_look_c]
      rw [e]
      exact sm_look h
/-- well-formed: symbols and cells that there are -/
noncomputable def sm_wv (N n : Nat) (v : ai_V) : Bool := match v with
  | .inl x => Nat.blt x.1 N
  | .inr (.inl x) => Nat.blt x.1 N
  | .inr (.inr (some (some q))) => Nat.blt q n
  | _ => true
theorem sm_wv_ok {N n : Nat} {v : ai_V} (h : sm_wv N n v = true) : ai_wfV N n v := by
  rcases v with x | x | _ | _ | q
  · exact Nat.le_of_ble_eq_true h
  · exact Nat.le_of_ble_eq_true h
  · trivial
  · trivial
  · exact Nat.le_of_ble_eq_true h
noncomputable def sm_wc (N n : Nat) (c : ai_C) : Bool := match c with
  | .inl (_, fs) => fs.all (sm_wv N n)
  | .inr (.inl (_, _, _, _, l)) => l.all (fun q => Nat.blt q.1.1 N && Nat.blt q.2.1 N)
  | .inr (.inr _) => true
theorem sm_wc_ok {N n : Nat} {c : ai_C} (h : sm_wc N n c = true) : ai_wfC N n c := by
  rcases c with ⟨ci, fs⟩ | ⟨ty, k, lo, hi, l⟩ | ⟨ty, l⟩
  · exact fun a ha => sm_wv_ok (List.all_eq_true.mp h a ha)
  · intro q hq
    have := List.all_eq_true.mp h q hq
    rw [Bool.and_eq_true] at this
    exact ⟨Nat.le_of_ble_eq_true this.1, Nat.le_of_ble_eq_true this.2⟩
  · trivial
noncomputable def sm_wo (N n : Nat) (c : Option ai_C) : Bool := match c with
  | none => true
  | some c => sm_wc N n c
noncomputable def sm_wh (N : Nat) (h : ai_H) : Bool := ai_tall (sm_wo N h.1) 9 h.2
theorem sm_tall {α : Type} {p : α → Bool} : ∀ {d : Nat} {t : ai_T α d}, ai_tall p d t = true → ∀ k, p (ai_tget d t k) = true
  | 0, t, h, k => h
  | d + 1, t, h, k => by
    unfold ai_tall at h
    split at h
    · rename_i e
      simp only [ai_tget_c]
      split
      · exact sm_tall e _
      · exact sm_tall h _
    · cases h
theorem sm_wh_ok {N : Nat} {h : ai_H} (g : sm_wh N h = true) : ∀ k d, k < h.1 → ai_cell h k = some d → ai_wfC N h.1 d := by
  intro k d _ hd
  have := sm_tall g k
  have hd : ai_tget 9 h.2 k = some d := hd
  rw [hd] at this
  exact sm_wc_ok this
noncomputable def sm_val (x : ai_R) : List ai_V := match x with
  | .inr (some v) => [v]
  | _ => []
noncomputable def sm_kind (x w : ai_R) : Bool := match x with
  | .inl e => match w with
    | .inl e' => Nat.beq e e'
    | _ => false
  | .inr none => match w with
    | .inr none => true
    | _ => false
  | .inr (some _) => match w with
    | .inr (some u) => match u with
      | .inr (.inr none) => false
      | _ => true
    | _ => false
/-- an end within a wider one: its kind, bounds of its own symbols, its heap -/
abbrev sm_W : Type := ai_R × List (Int × Int) × ai_H
noncomputable def sm_out (E : ai_E) (w : sm_W) : ai_R × ai_G := (w.1, (sm_E E w.2.1, w.2.2, 0, 0))
noncomputable def sm_sub (E : ai_E) (f : ai_R × ai_G) (w : sm_W) : Bool := match sm_kind f.1 w.1 with
  | false => false
  | true => match xt_in E.1 [] (sm_val f.1) (f.2.1, f.2.2.1, 0, 0) [] (sm_val w.1) (sm_E E w.2.1, w.2.2, 0, 0) with
    | some y => ai_cov y E.1 w.2.1.length
    | none => false
noncomputable def sm_ok (E : ai_E) (w : sm_W) : Bool := match (sm_val w.1).all (sm_wv (E.1 + w.2.1.length) w.2.2.1) with
  | true => sm_wh (E.1 + w.2.1.length) w.2.2
  | false => false
noncomputable def sm_any (E : ai_E) (f : ai_R × ai_G) : List sm_W → Bool
  | [] => false
  | w :: l => match sm_sub E f w with
    | true => true
    | false => sm_any E f l
theorem sm_any_ok {E : ai_E} {f : ai_R × ai_G} : ∀ {l : List sm_W}, sm_any E f l = true → ∃ w ∈ l, sm_sub E f w = true
  | [], h => by cases h
  | w :: l, h => by
    unfold sm_any at h
    split at h
    · rename_i e
      exact ⟨w, List.mem_cons_self, e⟩
    · obtain ⟨w', h1, h2⟩ := sm_any_ok h
      exact ⟨w', List.mem_cons_of_mem _ h1, h2⟩
theorem sm_wf0 : lv_wf #[] := ⟨fun i v h => by simp at h, fun i h => by simp at h⟩
theorem sm_end {D : va_G} {tyc : Nat → ClassId} {A : Nat → Prop} {sa : ai_B} {ws0 : va_W} {r0 r' : Nat → Int} {ad' : Nat → Nat} {t : State} {E : ai_E} {f : ai_R × ai_G} {w : sm_W} {st : List Value} (hb : 0 < E.1) (hE : ai_gE r0 E) (hx : ai_ext E.1 r0 r') (hN : E.1 ≤ f.2.1.1) (hd : E.2.2 = [])
    (hW : ai_Wd D tyc A sa ws0 r' ad' f.2 t.heap) (hv : ai_gF r' ad' f.2.1.1 f.2.2.1.1 (sm_val f.1) st) (hs : sm_sub E f w = true) (ho : sm_ok E w = true) :
    ∃ r2, ai_ext E.1 r0 r2 ∧ ai_Wd D tyc A sa ws0 r2 ad' (sm_out E w).2 t.heap ∧ ai_gF r2 ad' (sm_out E w).2.1.1 (sm_out E w).2.2.1.1 (sm_val w.1) st ∧ w.2.2.1 = f.2.2.1.1 := by
  unfold sm_sub at hs
  rw [xt_in_eq] at hs
  split at hs
  · cases hs
  · split at hs
    · rename_i y ey
      unfold sm_ok at ho
      split at ho
      · rename_i eo
        have hR : ai_Rel D tyc A t sa ws0 0 r' ad' [] (sm_val f.1) (f.2.1, f.2.2.1, 0, 0) t.heap [] #[] st := by
          obtain ⟨ws, g1, g2, g3, g4, g5, g6⟩ := hW
          exact ⟨ws, g1, g2, va_S.rf, g3, g4, g5, g6, ⟨rfl, rfl, sm_wf0, fun i hi => absurd rfl hi⟩, hv⟩
        have hlen : (sm_E E w.2.1).1 = E.1 + w.2.1.length := rfl
        obtain ⟨r2, a1, -, a3, a4, -, -⟩ := ai_in_ok ey hR hb hN (Nat.le_add_right _ _) (fun a ha => by cases ha) (fun a ha => sm_wv_ok (List.all_eq_true.mp eo a ha)) (sm_wh_ok ho)
          (fun q hq => by
            rcases List.mem_append.mp hq with hq' | hq'
            · have := sm_nb_mem hq'
              refine ⟨this.2, fun g => absurd g (Nat.not_lt.mpr this.1), fun _ => sm_look hq'⟩
            · have := hE.2.2.2.1 q hq'
              refine ⟨Nat.lt_of_lt_of_le this.1 (Nat.le_add_right _ _), fun g => by rw [hx _ this.1]; exact this.2, fun g => absurd this.1 (Nat.not_lt.mpr g)⟩)
          (fun q hq => by cases hq) (fun _ => 0) (fun u h1 h2 h3 => absurd h3 (ai_cov_ok hs u h1 h2))
        obtain ⟨hWd, -, -, hSt⟩ := a3.wd
        exact ⟨r2, fun u hu => (a1 u hu).trans (hx u hu), hWd, hSt, a4⟩
      · cases ho
    · cases hs
theorem sm_join {l : Launch} {D : va_G} {tyc : Nat → ClassId} {A : Nat → Prop} {sa : ai_B} {strs : List ai_Z} {nws Wg : List Cond} {y : ai_MT} {rm : Room} {aa : List ai_V} {E : ai_E} {h : ai_H} {outs : List (ai_R × ai_G)} {W : List sm_W} (hd : E.2.2 = []) (hc : ai_Ct l D tyc A sa strs nws Wg y rm aa (E, h, 0, 0) outs)
    (hs : outs.all (fun f => sm_any E f W) = true) (ho : W.all (sm_ok E) = true) : ai_Ct l D tyc A sa strs nws Wg y rm aa (E, h, 0, 0) (W.map (sm_out E)) := by
  intro ws0 r ad H0 As hPw hWd hA
  have hE : ai_gE r E := by
    obtain ⟨ws, -, -, g, -⟩ := hWd
    exact g
  refine sm_imp (hc ws0 r ad H0 As hPw hWd hA) (fun _ _ q => q) (fun a s o t hq => ?_) (fun X s t hq => ?_)
  · obtain ⟨f, hf, x, v, e1, e2, r', ad', x1, x2, x3, x4, hW, hF, hv⟩ := hq
    obtain ⟨w, hw, hsub⟩ := sm_any_ok (List.all_eq_true.mp hs f hf)
    have hok := List.all_eq_true.mp ho w hw
    obtain ⟨fx, fG⟩ := f
    have e1 : fx = .inr x := e1
    subst e1
    have hk : sm_kind (.inr x) w.1 = true := by
      unfold sm_sub at hsub
      rw [xt_in_eq] at hsub
      split at hsub
      · cases hsub
      · rename_i e; exact e
    have hn0 : (E, h, (0 : Nat), (0 : Nat)).1.1 ≤ (sm_out E w).2.1.1 := Nat.le_add_right _ _
    cases x with
    | none =>
      have hv : v = none := hv
      subst hv
      obtain ⟨r2, k1, k2, -, k4⟩ := sm_end (st := []) hE.2.1 hE x1 x3 hd hW trivial hsub hok
      refine ⟨sm_out E w, List.mem_map.mpr ⟨w, hw, rfl⟩, none, none, ?_, e2, r2, ad', k1, x2, hn0, ?_, k2, hF, rfl⟩
      · show w.1 = .inr none
        rcases hw1 : w.1 with e | _ | u
        · rw [hw1] at hk; cases hk
        · rfl
        · rw [hw1] at hk; cases hk
      · show h.1 ≤ w.2.2.1
        rw [k4]; exact x4
    | some b =>
      obtain ⟨u, rfl, hu⟩ := hv
      obtain ⟨r2, k1, k2, k3, k4⟩ := sm_end (st := [u]) hE.2.1 hE x1 x3 hd hW ⟨hu, trivial⟩ hsub hok
      rcases hw1 : w.1 with e | _ | c
      · rw [hw1] at hk; cases hk
      · rw [hw1] at hk; cases hk
      · rw [hw1] at k3
        obtain ⟨k3, -⟩ : ai_gV r2 ad' (sm_out E w).2.1.1 (sm_out E w).2.2.1.1 c u ∧ True := k3
        refine ⟨sm_out E w, List.mem_map.mpr ⟨w, hw, rfl⟩, some c, some u, hw1, e2, r2, ad', k1, x2, hn0, ?_, k2, hF, u, rfl, k3⟩
        show h.1 ≤ w.2.2.1
        rw [k4]; exact x4
  · obtain ⟨f, hf, x, e1, e2, r', ad', x1, x2, x3, x4, hW, hF, -⟩ := hq
    obtain ⟨w, hw, hsub⟩ := sm_any_ok (List.all_eq_true.mp hs f hf)
    have hok := List.all_eq_true.mp ho w hw
    obtain ⟨fx, fG⟩ := f
    have e1 : fx = .inl x := e1
    subst e1
    have hk : sm_kind (.inl x) w.1 = true := by
      unfold sm_sub at hsub
      rw [xt_in_eq] at hsub
      split at hsub
      · cases hsub
      · rename_i e; exact e
    obtain ⟨r2, k1, k2, -, k4⟩ := sm_end (st := []) hE.2.1 hE x1 x3 hd hW trivial hsub hok
    refine ⟨sm_out E w, List.mem_map.mpr ⟨w, hw, rfl⟩, x, ?_, e2, r2, ad', k1, x2, Nat.le_add_right _ _, ?_, k2, hF, trivial⟩
    · show w.1 = .inl x
      rcases hw1 : w.1 with e | _ | u
      · rw [hw1] at hk
        rw [Nat.eq_of_beq_eq_true hk]
      · rw [hw1] at hk; cases hk
      · rw [hw1] at hk; cases hk
    · show h.1 ≤ w.2.2.1
      rw [k4]; exact x4
