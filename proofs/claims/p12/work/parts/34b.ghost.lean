/-! BY HAND: arrays that the domain leaves alone (ghosts: the world ws0 says what they hold), exact comparisons, calls by contracts of any form -/
/-- an array of ints at a cell -/
noncomputable def hg_ia (tyc : Nat → ClassId) (ws : va_W) (q n : Nat) (f : Nat → Int32) : Prop := ∃ a, ws[q - 16]? = some (a, .inl (tyc 0, n, .inl f))
noncomputable def hg_la (tyc : Nat → ClassId) (ws : va_W) (q n : Nat) (f : Nat → Int64) : Prop := ∃ a, ws[q - 16]? = some (a, .inl (tyc 1, n, .inr (.inl f)))
section HG
variable {p : Program} {l : Launch} {e : Env} {R : Room} {s : State} {m : MethodId} {args : Array Value} {below : List Frame} {meth : Method} {c : Code} {Q : State → Prop}
variable {D : va_G} {tyc : Nat → ClassId} {A : Nat → Prop} {sa : ai_B} {ws0 : va_W} {nL : Nat} {cc : ByteArray} {own : String} {Ts : List Cond} {strs : List ai_Z} {nws : List Cond} {bud : Nat × Nat} {dflt : Nat → List ai_V} {kind : Nat → Nat → Nat}
variable {r : Nat → Int} {ad : Nat → Nat} {L S : List ai_V} {G : ai_G} {H : Heap} {locs : List Loc} {ls : Array Slot} {st : List Value} {pc : Nat}
/-- a number more that is known by its bounds -/
noncomputable def hg_new (G : ai_G) (b : Int × Int) : ai_G := ((ai_new G.1 b).2, G.2)
theorem hg_iald (F : ai_Fr p R s m args meth c D tyc A sa nL cc own Ts strs nws bud dflt kind) (hdg : decode cc pc = .ok (.iaload, 1)) {i : ai_X} {q n j : Nat} {f : Nat → Int32} {b : Int × Int} (hR : ai_Rel D tyc A s sa ws0 nL r ad L (.inl i :: .inr (.inr (some (some q))) :: S) G H locs ls st)
    (hq : 16 ≤ q) (hc : ai_cell G.2.1 q = none) (hf : hg_ia tyc ws0 q n f) (hj : j < n) (hi : ai_vx r i = (j : Int)) (hb : b.1 ≤ (f j).toInt ∧ (f j).toInt ≤ b.2)
    (k : ∀ (r' : Nat → Int) (st' : List Value), ai_ext G.1.1 r r' → r' G.1.1 = (f j).toInt → ai_Rel D tyc A s sa ws0 nL r' ad L (.inl (G.1.1, 0) :: S) (hg_new G b) H locs ls st' → W p l e R s m args below meth c H locs G.2.2.1 G.2.2.2 Q (F0 m (pc + 1) ls st')) :
    W p l e R s m args below meth c H locs G.2.2.1 G.2.2.2 Q (F0 m pc ls st) := by
  obtain ⟨hx, hbb, -, -, -, hSt0, -⟩ := F
  have hR0 := hR
  obtain ⟨ws, hP, hD, hS, hE, hH, hO, hsa, hL, hSt⟩ := hR
  obtain ⟨ix, t1, rfl, hi1, hi2, h1⟩ := ai_gF.int hSt
  obtain ⟨t, rfl, hqn, h2⟩ := h1.ref
  obtain ⟨hvp, hcl⟩ := ai_vpin (i := ix) (j := j) (n := n) (by rw [hi2]; exact hi) hj
  obtain ⟨a, hw⟩ := hf
  have hw2 : ws[q - 16]? = some (a, .inl (tyc 0, n, .inl f)) := by
    rw [hH.2.2.2 (q - 16) (by omega) (by rw [show q - 16 + 16 = q by omega]; exact hc)]
    exact hw
  have ha : a = ad q := by
    have := hH.2.1 _ _ hw2
    rw [show q - 16 + 16 = q by omega] at this
    exact this
  subst ha
  cases en : ai_new G.1 b with
  | mk z E' =>
    obtain ⟨r', g1, g2, g3, g4, g5⟩ := ai_new_ok hE hb (ai_small32 (ai_i32 _)) en
    have ez : z = (G.1.1, 0) ∧ E'.1 = G.1.1 + 1 := by
      obtain ⟨⟨N, lb, ds⟩, G2⟩ := G
      cases en
      exact ⟨rfl, rfl⟩
    obtain ⟨rfl, hE1⟩ := ez
    refine va_iald hx hbb hSt0.1 hP (q - 16) 0 hw2 rfl hvp hdg ?_
    rw [hcl]
    have e0 : r' G.1.1 = (f j).toInt := by
      have : r' G.1.1 + 0 = (f j).toInt := g5
      omega
    refine k r' _ g1 e0 ?_
    have := hR0.re (E' := E') (r' := r') (S' := .inl (G.1.1, 0) :: S) (st' := .int (f j) :: t) g1 g2 g3 ⟨⟨by rw [hE1]; exact Nat.lt_succ_self _, _, rfl, g5.symm⟩, h2.mono g1 ai_ext.rfl' g2 (Nat.le_refl _)⟩
    unfold hg_new
    rw [en]
    exact this
/-- a write to an array that the domain leaves alone -/
theorem hg_iast (F : ai_Fr p R s m args meth c D tyc A sa nL cc own Ts strs nws bud dflt kind) (hdg : decode cc pc = .ok (.iastore, 1)) {i v : ai_X} {q n j : Nat} {f : Nat → Int32} (hR : ai_Rel D tyc A s sa ws0 nL r ad L (.inl v :: .inl i :: .inr (.inr (some (some q))) :: S) G H locs ls st)
    (hq : 16 ≤ q) (hc : ai_cell G.2.1 q = none) (hf : hg_ia tyc ws0 q n f) (hj : j < n) (hi : ai_vx r i = (j : Int))
    (k : ∀ (ws1 : va_W) (H1 : Heap) (locs1 : List Loc) (st' : List Value) (f' : Nat → Int32), hg_ia tyc ws1 q n f' → (f' j).toInt = ai_vx r v → (∀ x, x ≠ j → f' x = f x) → (∀ x, x ≠ q - 16 → ws1[x]? = ws0[x]?) → ai_Rel D tyc A s sa ws1 nL r ad L S G H1 locs1 ls st' → W p l e R s m args below meth c H1 locs1 G.2.2.1 G.2.2.2 Q (F0 m (pc + 1) ls st')) :
    W p l e R s m args below meth c H locs G.2.2.1 G.2.2.2 Q (F0 m pc ls st) := by
  obtain ⟨hx, hbb, -, -, -, hSt0, -⟩ := F
  obtain ⟨ws, hP, hD, hS, hE, hH, hO, hsa, hL, hSt⟩ := hR
  obtain ⟨vx, t0, rfl, hz1, hz2, h0⟩ := ai_gF.int hSt
  obtain ⟨ix, t1, rfl, hi1, hi2, h1⟩ := h0.int
  obtain ⟨t, rfl, hqn, h2⟩ := h1.ref
  obtain ⟨hvp, hcl⟩ := ai_vpin (i := ix) (j := j) (n := n) (by rw [hi2]; exact hi) hj
  obtain ⟨a, hw⟩ := hf
  have hk : ws[q - 16]? = ws0[q - 16]? := hH.2.2.2 (q - 16) (by omega) (by rw [show q - 16 + 16 = q by omega]; exact hc)
  have hw2 : ws[q - 16]? = some (a, .inl (tyc 0, n, .inl f)) := by rw [hk]; exact hw
  have ha : a = ad q := by
    have := hH.2.1 _ _ hw2
    rw [show q - 16 + 16 = q by omega] at this
    exact this
  subst ha
  have hlt : q - 16 < ws.length := (List.getElem?_eq_some_iff.mp hw2).1
  have hlt0 : q - 16 < ws0.length := (List.getElem?_eq_some_iff.mp hw).1
  refine va_iast hx hbb hSt0.1 hP hD hS (q - 16) 0 hw2 rfl hvp hdg (fun H1 locs1 hP1 hD1 hS1 => ?_)
  rw [hcl] at hP1 hD1
  refine k (ws0.set (q - 16) (ad q, .inl (tyc 0, n, .inl (upd f j vx)))) H1 locs1 t (upd f j vx) ⟨ad q, List.getElem?_set_self hlt0⟩ (by rw [← hz2]; simp [upd]) (fun x hx => by simp [upd, hx]) (fun x hx => List.getElem?_set_ne (Ne.symm hx)) ⟨_, hP1, hD1, hS1, hE, ⟨by rw [List.length_set]; exact hH.1, fun x y hy => ?_, fun x hxn d hd => ?_, fun x hxn hd => ?_⟩, hO, hsa, hL, h2⟩
  · by_cases hxq : x = q - 16
    · subst hxq
      rw [List.getElem?_set_self hlt] at hy
      cases hy
      show ad q = _
      rw [show q - 16 + 16 = q by omega]
    · rw [List.getElem?_set_ne (Ne.symm hxq)] at hy
      exact hH.2.1 _ _ hy
  · by_cases hxq : x = q - 16
    · subst hxq
      rw [show q - 16 + 16 = q by omega, hc] at hd
      cases hd
    · rw [List.getElem?_set_ne (Ne.symm hxq)]
      exact hH.2.2.1 x hxn d hd
  · by_cases hxq : x = q - 16
    · subst hxq
      rw [List.getElem?_set_self hlt, List.getElem?_set_self hlt0]
    · rw [List.getElem?_set_ne (Ne.symm hxq), List.getElem?_set_ne (Ne.symm hxq)]
      exact hH.2.2.2 x hxn hd
/-- an exact comparison of two ints -/
theorem hg_icmp (F : ai_Fr p R s m args meth c D tyc A sa nL cc own Ts strs nws bud dflt kind) {o : ClassFile.Cond} {off : Int} {tgt : Nat} (hdg : decode cc pc = .ok (.if_icmp o off, 3)) (ht : (pc : Int) + off = (tgt : Int)) {x y : ai_X} (hR : ai_Rel D tyc A s sa ws0 nL r ad L (.inl y :: .inl x :: S) G H locs ls st)
    (kt : ai_holds (ai_cno o) (ai_vx r x) (ai_vx r y) → ∀ st', ai_Rel D tyc A s sa ws0 nL r ad L S G H locs ls st' → W p l e R s m args below meth c H locs G.2.2.1 G.2.2.2 Q (F0 m tgt ls st'))
    (kf : ¬ ai_holds (ai_cno o) (ai_vx r x) (ai_vx r y) → ∀ st', ai_Rel D tyc A s sa ws0 nL r ad L S G H locs ls st' → W p l e R s m args below meth c H locs G.2.2.1 G.2.2.2 Q (F0 m (pc + 3) ls st')) :
    W p l e R s m args below meth c H locs G.2.2.1 G.2.2.2 Q (F0 m pc ls st) := by
  obtain ⟨hx, hb, -⟩ := F
  obtain ⟨j, t1, rfl, hy, ey, g0⟩ := hR.stk.int
  obtain ⟨i, t, rfl, hx', ex, g1⟩ := g0.int
  rw [← ey, ← ex] at kt kf
  have kt := fun q => kt q t (hR.st' g1)
  have kf := fun q => kf q t (hR.st' g1)
  cases o
  · exact lv_icmp_eq hx hb hdg ht (fun q => kt (by rw [q]; rfl)) (fun q => kf (fun q2 => q (Int32.toInt_inj.mp q2)))
  · exact lv_icmp_ne hx hb hdg ht (fun q => kt (fun q2 => q (Int32.toInt_inj.mp q2))) (fun q => kf (fun q2 => q2 (by rw [q])))
  · exact lv_icmp_lt hx hb hdg ht (fun q => kt (Int32.lt_iff_toInt_lt.mp q)) (fun q => kf (fun q2 => q (Int32.lt_iff_toInt_lt.mpr q2)))
  · exact lv_icmp_ge hx hb hdg ht (fun q => kt (Int32.le_iff_toInt_le.mp q)) (fun q => kf (fun q2 => q (Int32.le_iff_toInt_le.mpr q2)))
  · exact lv_icmp_gt hx hb hdg ht (fun q => kt (Int32.lt_iff_toInt_lt.mp q)) (fun q => kf (fun q2 => q (Int32.lt_iff_toInt_lt.mpr q2)))
  · exact lv_icmp_le hx hb hdg ht (fun q => kt (Int32.le_iff_toInt_le.mp q)) (fun q => kf (fun q2 => q (Int32.le_iff_toInt_le.mpr q2)))
/-- a local's number -/
theorem hg_loc {i : Nat} {x : ai_X} (hR : ai_Rel D tyc A s sa ws0 nL r ad L S G H locs ls st) (h : ai_lget L i = .inl x) : ∃ v : Int32, ls[i]? = some (.val (.int v)) ∧ v.toInt = ai_vx r x ∧ x.1 < G.1.1 := by
  obtain ⟨ws, hP, hD, hS, hE, hH, hO, hsa, hL, hSt⟩ := hR
  obtain ⟨v, h1, h2⟩ := hL.2.2.2 i (by rw [h]; intro q; cases q)
  rw [h] at h2
  obtain ⟨h3, w, rfl, h4⟩ := h2
  exact ⟨w, h1, h4, h3⟩
/-- two pictures of the same locals agree -/
theorem hg_same {i : Nat} {x x' : ai_X} {ws1 : va_W} {r1 : Nat → Int} {ad1 : Nat → Nat} {L1 S1 : List ai_V} {G1 : ai_G} {H1 : Heap} {locs1 : List Loc} {st1 : List Value} (hR : ai_Rel D tyc A s sa ws0 nL r ad L S G H locs ls st) (hR1 : ai_Rel D tyc A s sa ws1 nL r1 ad1 L1 S1 G1 H1 locs1 ls st1) (h : ai_lget L i = .inl x) (h1 : ai_lget L1 i = .inl x') : ai_vx r1 x' = ai_vx r x := by
  obtain ⟨v, a1, a2, -⟩ := hg_loc hR h
  obtain ⟨w, b1, b2, -⟩ := hg_loc hR1 h1
  rw [a1] at b1
  cases b1
  rw [← a2, ← b2]
/-- a cell of ints that the domain has is left alone from here on -/
noncomputable def hg_drop (G : ai_G) (q : Nat) : ai_G := (G.1, (G.2.1.1, ai_tset 9 G.2.1.2 q none), G.2.2)
end HG
/-! A STATE WITHIN A WIDER ONE (the head of a loop by hand): its own symbols behind those of E0 -/
noncomputable def hw_sub (E0 : ai_E) (nb : List (Int × Int)) (h' : ai_H) (L' S' L S : List ai_V) (G : ai_G) : Bool := match xt_in E0.1 L S G L' S' (sm_E E0 nb, h', G.2.2.1, G.2.2.2) with
  | some y => ai_cov y E0.1 nb.length && (L'.all (sm_wv (E0.1 + nb.length) h'.1) && (S'.all (sm_wv (E0.1 + nb.length) h'.1) && sm_wh (E0.1 + nb.length) h'))
  | none => false
theorem hw_ok {s : State} {D : va_G} {tyc : Nat → ClassId} {A : Nat → Prop} {sa : ai_B} {ws0 : va_W} {nL : Nat} {r0 r : Nat → Int} {ad : Nat → Nat} {L S L' S' : List ai_V} {G : ai_G} {H : Heap} {locs : List Loc} {ls : Array Slot} {st : List Value} {E0 : ai_E} {nb : List (Int × Int)} {h' : ai_H}
    (hE0 : ai_gE r0 E0) (hd : E0.2.2 = []) (hx : ai_ext E0.1 r0 r) (hN : E0.1 ≤ G.1.1) (hR : ai_Rel D tyc A s sa ws0 nL r ad L S G H locs ls st) (hs : hw_sub E0 nb h' L' S' L S G = true) :
    ∃ r2, ai_ext E0.1 r0 r2 ∧ ai_Rel D tyc A s sa ws0 nL r2 ad L' S' (sm_E E0 nb, h', G.2.2) H locs ls st := by
  unfold hw_sub at hs
  rw [xt_in_eq] at hs
  split at hs
  · rename_i y ey
    simp only [Bool.and_eq_true] at hs
    obtain ⟨c1, c2, c3, c4⟩ := hs
    obtain ⟨r2, a1, -, a3, a4, -, -⟩ := ai_in_ok ey hR hE0.2.1 hN (Nat.le_add_right _ _) (fun a ha => sm_wv_ok (List.all_eq_true.mp c2 a ha)) (fun a ha => sm_wv_ok (List.all_eq_true.mp c3 a ha)) (sm_wh_ok c4)
      (fun q hq => by
        rcases List.mem_append.mp hq with hq' | hq'
        · have := sm_nb_mem hq'
          refine ⟨this.2, fun g => absurd g (Nat.not_lt.mpr this.1), fun _ => sm_look hq'⟩
        · have := hE0.2.2.2.1 q hq'
          refine ⟨Nat.lt_of_lt_of_le this.1 (Nat.le_add_right _ _), fun g => by rw [hx _ this.1]; exact this.2, fun g => absurd this.1 (Nat.not_lt.mpr g)⟩)
      (fun q hq => by cases hq) (fun _ => 0) (fun u h1 h2 h3 => absurd h3 (ai_cov_ok c1 u h1 h2))
    exact ⟨r2, fun u hu => (a1 u hu).trans (hx u hu), a3⟩
  · cases hs
/-! CELLS OF INTS IN AND OUT OF THE DOMAIN -/
theorem hg_cell {G : ai_G} {q k : Nat} (hq : q < 512) (hk : k < 512) {c : Option ai_C} : ai_cell (G.2.1.1, ai_tset 9 G.2.1.2 q c) k = if k = q then c else ai_cell G.2.1 k := by
  show ai_tget 9 (ai_tset 9 G.2.1.2 q c) k = _
  rw [ai_tget_set c 9 G.2.1.2 q k hq hk]
  rfl
/-- an int array of the domain is left alone from here on: what it holds is ws1's -/
theorem hg_in {s : State} {D : va_G} {tyc : Nat → ClassId} {A : Nat → Prop} {sa : ai_B} {ws0 : va_W} {nL : Nat} {r : Nat → Int} {ad : Nat → Nat} {L S : List ai_V} {G : ai_G} {H : Heap} {locs : List Loc} {ls : Array Slot} {st : List Value} {q n : Nat} {lo hi : Int}
    (hR : ai_Rel D tyc A s sa ws0 nL r ad L S G H locs ls st) (hq : 16 ≤ q) (hqn : q < G.2.1.1) (hc : ai_cell G.2.1 q = some (.inr (.inl (0, n, lo, hi, [])))) :
    ∃ (ws1 : va_W) (f : Nat → Int32), hg_ia tyc ws1 q n f ∧ (∀ j, j < n → lo ≤ (f j).toInt ∧ (f j).toInt ≤ hi) ∧ (∀ k, k + 16 < G.2.1.1 → ai_cell G.2.1 (k + 16) = none → ws1[k]? = ws0[k]?) ∧ ws1.length + 16 = G.2.1.1 ∧ ai_Rel D tyc A s sa ws1 nL r ad L S (hg_drop G q) H locs ls st := by
  obtain ⟨ws, hP, hD, hS, hE, hH, hO, hsa, hL, hSt⟩ := hR
  have hn512 := hH.1.2.1
  obtain ⟨x, hw, hg⟩ := hH.at hq hqn hc
  rcases hg with ⟨e0, -⟩ | ⟨-, f, rfl, hK⟩
  · cases e0
  · refine ⟨ws, f, ⟨_, hw⟩, fun j hj => ?_, fun k hk hn => hH.2.2.2 k hk hn, hH.1.2.2, ws, hP, hD, hS, hE, ⟨hH.1, hH.2.1, fun k hk d hd => ?_, fun k hk hd => rfl⟩, fun k hk d hd => ?_, hsa, hL, hSt⟩
    · have := hK.2 j hj
      exact this
    · have hd : ai_cell (G.2.1.1, ai_tset 9 G.2.1.2 q none) (k + 16) = some d := hd
      have hk : k + 16 < G.2.1.1 := hk
      rw [hg_cell (by omega) (by omega)] at hd
      split at hd
      · cases hd
      · exact hH.2.2.1 k hk d hd
    · have hd : ai_cell (G.2.1.1, ai_tset 9 G.2.1.2 q none) k = some d := hd
      rw [hg_cell (by omega) (by omega)] at hd
      split at hd
      · cases hd
      · exact hO k hk d hd
/-- and back -/
theorem hg_out {s : State} {D : va_G} {tyc : Nat → ClassId} {A : Nat → Prop} {sa : ai_B} {ws0 ws1 : va_W} {nL : Nat} {r : Nat → Int} {ad : Nat → Nat} {L S : List ai_V} {G : ai_G} {H : Heap} {locs : List Loc} {ls : Array Slot} {st : List Value} {q n : Nat} {lo hi : Int} {f : Nat → Int32}
    (hR : ai_Rel D tyc A s sa ws1 nL r ad L S G H locs ls st) (hq : 16 ≤ q) (hqn : q < G.2.1.1) (hc : ai_cell G.2.1 q = none) (hf : hg_ia tyc ws1 q n f) (hb : ∀ j, j < n → lo ≤ (f j).toInt ∧ (f j).toInt ≤ hi) (hw0 : ∀ k, k + 16 < G.2.1.1 → k + 16 ≠ q → ai_cell G.2.1 (k + 16) = none → ws1[k]? = ws0[k]?) :
    ai_Rel D tyc A s sa ws0 nL r ad L S (G.1, (G.2.1.1, ai_tset 9 G.2.1.2 q (some (.inr (.inl (0, n, lo, hi, []))))), G.2.2) H locs ls st := by
  obtain ⟨ws, hP, hD, hS, hE, hH, hO, hsa, hL, hSt⟩ := hR
  have hn512 := hH.1.2.1
  obtain ⟨a, hw⟩ := hf
  have hw2 : ws[q - 16]? = some (a, .inl (tyc 0, n, .inl f)) := by
    rw [hH.2.2.2 (q - 16) (by omega) (by rw [show q - 16 + 16 = q by omega]; exact hc)]
    exact hw
  have ha : a = ad q := by
    have := hH.2.1 _ _ hw2
    rw [show q - 16 + 16 = q by omega] at this
    exact this
  refine ⟨ws, hP, hD, hS, hE, ⟨hH.1, hH.2.1, fun k hk d hd => ?_, fun k hk hd => ?_⟩, fun k hk d hd => ?_, hsa, hL, hSt⟩
  · have hk : k + 16 < G.2.1.1 := hk
    have hd : ai_cell (G.2.1.1, ai_tset 9 G.2.1.2 q (some (.inr (.inl (0, n, lo, hi, []))))) (k + 16) = some d := hd
    rw [hg_cell (by omega) (by omega)] at hd
    split at hd
    · rename_i ek
      cases hd
      refine ⟨.inl (tyc 0, n, .inl f), ?_, Or.inr ⟨Or.inl rfl, f, rfl, fun z hz => (by cases hz), fun j hj => hb j hj⟩⟩
      rw [show k = q - 16 by omega, hw2, ha, show q - 16 + 16 = q by omega]
    · exact hH.2.2.1 k hk d hd
  · have hk : k + 16 < G.2.1.1 := hk
    have hd : ai_cell (G.2.1.1, ai_tset 9 G.2.1.2 q (some (.inr (.inl (0, n, lo, hi, []))))) (k + 16) = none := hd
    rw [hg_cell (by omega) (by omega)] at hd
    split at hd
    · cases hd
    · rename_i ek
      rw [hH.2.2.2 k hk hd]
      exact hw0 k hk ek hd
  · have hd : ai_cell (G.2.1.1, ai_tset 9 G.2.1.2 q (some (.inr (.inl (0, n, lo, hi, []))))) k = some d := hd
    rw [hg_cell (by omega) (by omega)] at hd
    split at hd
    · omega
    · exact hO k hk d hd
/-! CALLS BY HAND: of a method of an object, by a contract of any form -/
section HC0
variable {p : Program} {l : Launch} {e : Env} {R : Room} {s : State} {m : MethodId} {args : Array Value} {below : List Frame} {meth : Method} {c : Code} {Q : State → Prop}
variable {D : va_G} {tyc : Nat → ClassId} {A : Nat → Prop} {sa : ai_B} {ws0 : va_W} {nL : Nat} {cc : ByteArray} {own : String} {Wg : List Cond} {strs : List ai_Z} {nws : List Cond} {bud : Nat × Nat} {dflt : Nat → List ai_V} {kind : Nat → Nat → Nat}
variable {r : Nat → Int} {ad : Nat → Nat} {L S S' : List ai_V} {G : ai_G} {H : Heap} {locs : List Loc} {ls : Array Slot} {st : List Value}
set_option maxHeartbeats 1000000 in
theorem hg_callv0 {pc b mj : Nat} {idx : Nat} {aa : List ai_V} {y : ai_MT} {rm : Room} {Qc : Array Value → State → Outcome → State → Prop} (F : ai_Fr p R s m args meth c D tyc A sa nL cc own Wg strs nws bud dflt kind) (hgood : ∀ w ∈ Wg, goodWord w = true) (hnk : ∀ w ∈ nws, ai_nk w = true) (hwc : ai_wc Wg nws y own (.invokevirtual idx) 3 b) (hmok : ai_mok Wg y) (hrm : rm.frames + 1 ≤ R.frames ∧ rm.locals + 64 ≤ R.locals) (hdg : decode cc pc = .ok (.invokevirtual idx, 3))
    (hst : ai_vcall mj (Nat.mod b 64) (Nat.div b 64) (pc + 3) S G.2.1 = some (.inr (.inl (mj, aa, S', pc + 3)))) (hR : ai_Rel D tyc A s sa ws0 nL r ad L S G H locs ls st) (hroom : G.2.2.1 + rm.cells ≤ R.cells ∧ G.2.2.2 + rm.slots ≤ R.slots)
    (hMet : ∀ As : List Value, ai_gF r ad G.1.1 G.2.1.1 aa As → ai_Wd D tyc A sa ws0 r ad (G.1, G.2.1, 0, 0) H → vx_Met l y.1 (ai_cw y :: Wg) rm (fun a U => a = As.toArray ∧ U.heap = H ∧ ai_St D tyc A sa strs nws U ∧ ∀ q, H.size ≤ q → A q) Qc (fun _ _ _ => False) rm.cells rm.slots A)
    (k : ∀ (a : Array Value) (st0 t : State) (v : Option Value) (rest : List Value) (locs1 : List Loc), st0.heap = H → Qc a st0 (.returned v) t → ai_gF r ad G.1.1 G.2.1.1 S' rest → (va_F A st0 t → va_S A s.heap t.heap locs1) →
      W p l e R s m args below meth c t.heap locs1 (G.2.2.1 + rm.cells) (G.2.2.2 + rm.slots) Q (F0 m (pc + 3) ls (v.toList ++ rest))) :
    W p l e R s m args below meth c H locs G.2.2.1 G.2.2.2 Q (F0 m pc ls st) := by
  obtain ⟨hx, hb, hml, hts, hown, hSt0, hA, hbud, hcls, hroom0, hlocks⟩ := F
  obtain ⟨hWd, hS, hL, hSt⟩ := hR.wd
  obtain ⟨m1, m2, m3, m4, m5⟩ := hmok
  have hWd0 : ai_Wd D tyc A sa ws0 r ad (G.1, G.2.1, 0, 0) H := hWd
  have hfix : CallFix p m c cc nL s args Wg own := ⟨hx, hb, hml, hown, hts⟩
  have hGws : GoodIn Wg (ai_cw y :: Wg) := goodIn_sub (fun w hw => (List.mem_cons.mp hw).elim (fun q => by rw [q]; exact m4) (fun q => q)) (List.all_eq_true.mpr (fun w hw => (List.mem_cons.mp hw).elim (fun q => by rw [q]; exact hgood _ m4) (fun q => hgood w q)))
  have hgo : ∀ {ws : List Cond}, (∀ w ∈ ws, w ∈ Wg) → GoodIn Wg ws := fun hm => goodIn_sub hm (List.all_eq_true.mpr (fun w hw => hgood w (hm w hw)))
  have hlo : rm.frames + 1 ≤ R.frames ∧ 8 + (y.2.2.1 + 11) + rm.locals ≤ R.locals := ⟨hrm.1, by omega⟩
  have hpre : ∀ (As : List Value), PreS s H (fun a U => a = As.toArray ∧ U.heap = H ∧ ai_St D tyc A sa strs nws U ∧ ∀ q, H.size ≤ q → A q) As := fun As =>
    ⟨fun a U g mk ⟨h1, h2, h3, h4⟩ => ⟨h1, h2, h3.moved hnk (show U.WarmedH U.vm from State.WarmedH.refl U) (Nat.le_refl _) (fun q _ _ => rfl), h4⟩, fun U hU hW => ⟨rfl, hU, hSt0.moved hnk hW (by rw [hU]; exact hS.1) (fun q h1 h2 => by rw [hU]; exact hS.2.1 q h1 h2), fun q hq => hA q (Nat.le_trans hS.1 hq)⟩⟩
  obtain ⟨em, ep, et, ew, o, ta, fs, rfl, eo⟩ := ai_vcall_inv hst
  obtain ⟨-, w2, w3, ⟨Tx, Nf, w4⟩, w5, w6, w7⟩ := hwc
  obtain ⟨As, rest, g1, g2, g3, g4⟩ := ai_take_ok (acc := []) (accC := []) (r := r) (ad := ad) (N := G.1.1) (n := G.2.1.1) trivial hSt et
  obtain ⟨t, rfl, ho, g5⟩ := ai_gF.ref g1
  have hlen : t.length = y.2.2.2.2.2 := by
    have : t.length + 1 = 0 + Nat.mod b 64 := g4
    have e2 : Nat.mod b 64 = b % 64 := rfl
    omega
  have hstk : st = t.reverse ++ .ref (ad o) :: rest := by
    have : [].reverse ++ st = (Value.ref (ad o) :: t).reverse ++ rest := g3
    rw [List.reverse_cons, List.append_assoc] at this
    exact this
  subst hstk
  have hM := hMet (Value.ref (ad o) :: t) g1 hWd0
  obtain ⟨ws, hP, hD, hE, hH, hO, hsa⟩ := hWd
  have h16 : 16 ≤ o := ai_old hO eo (fun x q => by cases q)
  obtain ⟨x, hw, hg⟩ := hH.at h16 ho eo
  obtain ⟨vs, rfl, -⟩ := hg
  have hrec := va_recv hSt0.1 hP w4 hw
  unfold ai_cw at hM hGws
  rw [w2] at hM hGws
  have hRun : ai_Run p l e R s m args below meth c H locs G.2.2.1 G.2.2.2 rm.cells rm.slots (F0 m pc ls (t.reverse ++ .ref (ad o) :: rest)) rest (Qc (Value.ref (ad o) :: t).toArray) (fun _ _ _ => False) A := ai_Run.ofX (vx_runV (C := y.1.cls) (index := idx) (n := y.2.2.2.2.2) hfix hM (cwV _ hts (hgo (fun w hw => by
    rcases List.mem_append.mp hw with hw | hw
    · simp only [List.mem_cons, List.not_mem_nil, or_false] at hw
      rcases hw with rfl | rfl | rfl | rfl
      · exact w5
      · exact w6
      · exact w7
      · exact m5
    · exact (hGws w hw).1)) rfl rfl rfl ⟨rfl, m2⟩ hlo) ⟨(hpre _).1, hrec, (hpre _).2⟩ rfl hlen hL.2.1 rfl (by have := ai_words_ok g2; show 2 * 0 + _ ≤ 8; omega) hdg hroom)
  intro T hT X
  rcases hRun T hT X with ⟨v, st₀, t', T', Lx, h0, X', hLx, e1, hq, stp⟩ | ⟨q, st₀, t', T', Lx, E, ce, h0, X', hLx, e1, hxx, -⟩
  · obtain ⟨t2, a1, b1⟩ := k _ st₀ t' v rest (locs ++ Lx) h0 hq g2 (fun hF => by
      have := ai_keep (T' := T') h0 e1 hS hLx hF
      rw [e1] at this
      exact this) T' e1 X'
    exact ⟨t2, stp t2 a1, b1⟩
  · exact hxx.elim
end HC0
section HC
variable {p : Program} {l : Launch} {e : Env} {s : State} {m : MethodId} {args : Array Value} {below : List Frame} {meth : Method} {c : Code} {Q : State → Prop}
variable {D : va_G} {tyc : Nat → ClassId} {A : Nat → Prop} {sa : ai_B} {ws0 : va_W} {mi n : Nat}
variable {pc mj b : Nat} {idx : Nat} {L S S' : List ai_V} {aa : List ai_V} {G : ai_G} {r : Nat → Int} {ad : Nat → Nat} {H : Heap} {locs : List Loc} {ls : Array Slot} {st : List Value}
theorem hg_callv {Qc : Array Value → State → Outcome → State → Prop} (hpl : ls_plain mi = true) (hplj : ls_plain mj = true) (hmj : mj < 1000) (F : ls_Fr p (lt_rm (n + 1) mi) s m args meth c D tyc A sa mi) (hcode : ls_code mi pc = some (.invokevirtual idx, 3, mj, b))
    (hst : ai_vcall mj (Nat.mod b 64) (Nat.div b 64) (pc + 3) S G.2.1 = some (.inr (.inl (mj, aa, S', pc + 3)))) (hR : ai_Rel D tyc A s sa ws0 (ct_mt mi).2.2.1 r ad L S G H locs ls st) (hroom : G.2.2.1 + (lt_rm n mj).cells ≤ (lt_rm (n + 1) mi).cells ∧ G.2.2.2 + (lt_rm n mj).slots ≤ (lt_rm (n + 1) mi).slots)
    (hMet : ∀ As : List Value, ai_gF r ad G.1.1 G.2.1.1 aa As → ai_Wd D tyc A sa ws0 r ad (G.1, G.2.1, 0, 0) H → vx_Met l (ct_mt mj).1 (ai_cw (ct_mt mj) :: ft_W) (lt_rm n mj) (fun a U => a = As.toArray ∧ U.heap = H ∧ ai_St D tyc A sa ct_strs ft_N U ∧ ∀ q, H.size ≤ q → A q) Qc (fun _ _ _ => False) (lt_rm n mj).cells (lt_rm n mj).slots A)
    (k : ∀ (a : Array Value) (st0 t : State) (v : Option Value) (rest : List Value) (locs1 : List Loc), st0.heap = H → Qc a st0 (.returned v) t → ai_gF r ad G.1.1 G.2.1.1 S' rest → (va_F A st0 t → va_S A s.heap t.heap locs1) →
      W p l e (lt_rm (n + 1) mi) s m args below meth c t.heap locs1 (G.2.2.1 + (lt_rm n mj).cells) (G.2.2.2 + (lt_rm n mj).slots) Q (F0 m (pc + 3) ls (v.toList ++ rest))) :
    W p l e (lt_rm (n + 1) mi) s m args below meth c H locs G.2.2.1 G.2.2.2 Q (F0 m pc ls st) := by
  unfold ls_plain at hpl hplj
  simp only [Bool.and_eq_true] at hpl hplj
  obtain ⟨-, htab⟩ := ls_known hpl.1
  obtain ⟨mok, -⟩ := ls_known hplj.1
  obtain ⟨d1, -, -, -, d5⟩ := htab pc _ _ _ _ hcode
  exact hg_callv0 F (fun w hw => (List.mem_filter.mp hw).2) (fun w hw => (List.mem_filter.mp hw).2) (d5 hmj) mok ⟨by show n + 0 + 8 + 1 ≤ n + 1 + 0 + 8; omega, by show 64 * (n + 0) + 400 + 64 ≤ 64 * (n + 1 + 0) + 400; omega⟩ d1 hst hR hroom hMet k
end HC
