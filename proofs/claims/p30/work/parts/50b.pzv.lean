/-! THE PARSER: codes that leave one number more; segments between calls -/
theorem pw_up {f : Nat → Int} : ∀ {n i j d : Nat}, pw_cv f n i j d → pw_cv f (n + 1) i j d
  | 0, i, j, d, h => Or.inl h
  | n + 1, i, j, d, h => by
    rcases h with h | ⟨h1, h⟩
    · exact Or.inl h
    · refine Or.inr ⟨h1, ?_⟩
      rcases h with ⟨a, b, c, e⟩ | ⟨a, b, c, e⟩ | ⟨a, b, c, e⟩ | ⟨a, b, c, g, e⟩
      · exact Or.inl ⟨a, b, c, pw_up e⟩
      · exact Or.inr (Or.inl ⟨a, b, c, pw_up e⟩)
      · exact Or.inr (Or.inr (Or.inl ⟨a, b, c, pw_up e⟩))
      · exact Or.inr (Or.inr (Or.inr ⟨a, b, c, g, pw_up e⟩))
theorem pw_ups {f : Nat → Int} {n i j d : Nat} (h : pw_cv f n i j d) : ∀ {n' : Nat}, n ≤ n' → pw_cv f n' i j d
  | 0, hn => by
    have : n = 0 := by omega
    subst this
    exact h
  | n' + 1, hn => by
    by_cases e : n = n' + 1
    · subst e
      exact h
    · exact pw_up (pw_ups h (by omega))
/-- it speaks of what lies ahead of its end alone -/
theorem pw_cg {f f' : Nat → Int} {j : Nat} (hf : ∀ q, q < j → f' q = f q) : ∀ {n i d : Nat}, pw_cv f n i j d → pw_cv f' n i j d
  | 0, i, d, h => h
  | n + 1, i, d, h => by
    rcases h with h | ⟨h1, h⟩
    · exact Or.inl h
    · refine Or.inr ⟨h1, ?_⟩
      rw [hf i h1]
      rcases h with ⟨a, b, c, e⟩ | ⟨a, b, c, e⟩ | ⟨a, b, c, e⟩ | ⟨a, b, c, g, e⟩
      · exact Or.inl ⟨a, b, c, pw_cg hf e⟩
      · exact Or.inr (Or.inl ⟨a, b, c, pw_cg hf e⟩)
      · exact Or.inr (Or.inr (Or.inl ⟨a, b, c, pw_cg hf e⟩))
      · exact Or.inr (Or.inr (Or.inr ⟨a, b, c, g, pw_cg hf e⟩))
/-- codes of the fifth row from a place to another one leave one number more, and want so many places -/
noncomputable def pz_V (g : Nat → Int32) (i j M : Nat) : Prop := i ≤ j ∧ ∀ f' : Nat → Int, (∀ q, i ≤ q → q < j → f' q = (g (1600 + q)).toInt) → ∀ n e d, d + M ≤ 110 → j ≤ e → pw_cv f' n j e (d + 1) → pw_cv f' (n + (j - i)) i e d
theorem pz_V.mono {g : Nat → Int32} {i j M M' : Nat} (h : pz_V g i j M) (hM : M ≤ M') : pz_V g i j M' := ⟨h.1, fun f' hf n e d h1 h2 h3 => h.2 f' hf n e d (by omega) h2 h3⟩
theorem pz_V.tr {g g' : Nat → Int32} {i j M : Nat} (h : pz_V g i j M) (hg : ∀ q, q < 1600 + j → g' q = g q) : pz_V g' i j M := ⟨h.1, fun f' hf n e d h1 h2 h3 => h.2 f' (fun q q1 q2 => by rw [hf q q1 q2, hg _ (by omega)]) n e d h1 h2 h3⟩
theorem pz_V_bin {g : Nat → Int32} {i j1 j2 M1 M2 M : Nat} (h1 : pz_V g i j1 M1) (h2 : pz_V g j1 j2 M2) (hM1 : M1 ≤ M) (hM2 : M2 + 1 ≤ M) (hM : 2 ≤ M) (ho : 1 ≤ (g (1600 + j2)).toInt ∧ (g (1600 + j2)).toInt ≤ 8) : pz_V g i (j2 + 1) M := by
  refine ⟨by have := h1.1; have := h2.1; omega, fun f' hf n e d k1 k2 k3 => ?_⟩
  have a1 := h1.1
  have a2 := h2.1
  have e0 := hf j2 (by omega) (by omega)
  have s1 : pw_cv f' (n + 1) j2 e (d + 1 + 1) := Or.inr ⟨by omega, Or.inr (Or.inr (Or.inr ⟨by rw [e0]; exact ho.1, by rw [e0]; exact ho.2, by omega, by omega, k3⟩))⟩
  have s2 := h2.2 f' (fun q q1 q2 => hf q (by omega) (by omega)) (n + 1) e (d + 1) (by omega) (by omega) s1
  have s3 := h1.2 f' (fun q q1 q2 => hf q q1 (by omega)) _ e d (by omega) (by omega) s2
  rw [show n + (j2 + 1 - i) = n + 1 + (j2 - j1) + (j1 - i) by omega]
  exact s3
theorem pz_V_not {g : Nat → Int32} {i j M : Nat} (h : pz_V g i j M) (hM : 1 ≤ M) (ho : (g (1600 + j)).toInt = 9) : pz_V g i (j + 1) M := by
  refine ⟨by have := h.1; omega, fun f' hf n e d k1 k2 k3 => ?_⟩
  have a1 := h.1
  have e0 := hf j (by omega) (by omega)
  have s1 : pw_cv f' (n + 1) j e (d + 1) := Or.inr ⟨by omega, Or.inr (Or.inr (Or.inl ⟨by rw [e0]; exact ho, by omega, by omega, k3⟩))⟩
  have s3 := h.2 f' (fun q q1 q2 => hf q q1 (by omega)) _ e d (by omega) (by omega) s1
  rw [show n + (j + 1 - i) = n + 1 + (j - i) by omega]
  exact s3
theorem pz_V_push {g : Nat → Int32} {i : Nat} (h : (g (1600 + i)).toInt = 0) : pz_V g i (i + 2) 1 := by
  refine ⟨by omega, fun f' hf n e d k1 k2 k3 => ?_⟩
  have e0 := hf i (by omega) (by omega)
  have s1 : pw_cv f' (n + 1) i e d := Or.inr ⟨by omega, Or.inl ⟨by rw [e0]; exact h, by omega, by omega, k3⟩⟩
  exact pw_ups s1 (by omega)
theorem pz_V_val {g : Nat → Int32} {i : Nat} (h : 20 ≤ (g (1600 + i)).toInt ∧ (g (1600 + i)).toInt ≤ 24) : pz_V g i (i + 1) 1 := by
  refine ⟨by omega, fun f' hf n e d k1 k2 k3 => ?_⟩
  have e0 := hf i (by omega) (by omega)
  have s1 : pw_cv f' (n + 1) i e d := Or.inr ⟨by omega, Or.inr (Or.inl ⟨by rw [e0]; exact h.1, by rw [e0]; exact h.2, by omega, k3⟩)⟩
  exact pw_ups s1 (by omega)
/-- a whole clause -/
theorem pz_V_all {g : Nat → Int32} {i j : Nat} (h : pz_V g i j 100) (hj : j ≤ 400) : pw_cv (fun q => (g (1600 + q)).toInt) 400 i j 0 :=
  pw_ups (h.2 _ (fun q _ _ => rfl) 0 j 0 (by omega) (Nat.le_refl _) ⟨rfl, rfl⟩) (by have := h.1; omega)
/-! segments -/
noncomputable def pz_u : ai_V := .inr (.inr none)
noncomputable def pz_this : ai_V := .inr (.inr (some (some 264)))
noncomputable def pz_o (ch : List (Nat × ai_X)) : List (Nat × ai_X) := (List.range 43).filterMap (fun t => match ch.find? (fun q => Nat.beq q.1 (t + 1)) with
  | some _ => none
  | none => some (t + 1, (t + 1, 0)))
theorem pz_o_mem {ch : List (Nat × ai_X)} {t : Nat} (h1 : 1 ≤ t) (h2 : t < 44) (h : ch.all (fun q => !(Nat.beq q.1 t)) = true) : (t, ((t, 0) : ai_X)) ∈ pz_o ch := by
  refine List.mem_filterMap.mpr ⟨t - 1, List.mem_range.mpr (by omega), ?_⟩
  have e : t - 1 + 1 = t := by omega
  rw [e]
  have hn : ch.find? (fun q => Nat.beq q.1 t) = none := List.find?_eq_none.mpr (fun q hq hb => by
    have := List.all_eq_true.mp h q hq
    have hb : Nat.beq q.1 t = true := hb
    rw [hb] at this
    cases this)
  rw [hn]
noncomputable def pz_to (nb : List (Int × Int)) (pc : Nat) (L' S' : List ai_V) (ch : List (Nat × ai_X)) (f : ai_F) : Bool := Nat.beq f.1 pc && (Nat.beq f.2.2.2.2.1.1 336 && (Nat.ble 44 f.2.2.2.1.1 && (Nat.beq f.2.2.2.2.2.1 0 && (Nat.beq f.2.2.2.2.2.2 0 && hw_subY (1, [], []) (pz_nb ++ nb) pz_h L' S' f.2.1 f.2.2.1 f.2.2.2 (pz_o ch ++ ch)))))
theorem pz_nbs {nb : List (Int × Int)} : ∀ {l : List (Int × Int)} {k : Nat}, sm_nb k (l ++ nb) = sm_nb k l ++ sm_nb (k + l.length) nb
  | [], k => rfl
  | b :: l, k => by
    show (k, b) :: sm_nb (k + 1) (l ++ nb) = (k, b) :: (sm_nb (k + 1) l ++ sm_nb (k + (l.length + 1)) nb)
    rw [pz_nbs, show k + 1 + l.length = k + (l.length + 1) by omega]
noncomputable def pz_cap : List (Nat × Int × Int) → ai_G → ai_G
  | [], G => G
  | q :: l, G => pz_cap l (hg_cap G q.1 q.2)
theorem pz_cap_N {l : List (Nat × Int × Int)} : ∀ {G : ai_G}, (pz_cap l G).1.1 = G.1.1 ∧ (pz_cap l G).2 = G.2 := by
  induction l with
  | nil => intro G; exact ⟨rfl, rfl⟩
  | cons q l ih => intro G; exact ih (G := hg_cap G q.1 q.2)
noncomputable def pz_sc (T : List (Nat × us_C)) (mi : Nat) (stop : List Nat) (skip : Bool) (pc : Nat) (L S : List ai_V) (nb : List (Int × Int)) (caps : List (Nat × Int × Int)) (chk : ai_F → Bool) : Bool := lz_chk T mi stop skip pc L S (pz_cap caps (pz_G nb)) chk
section PS
variable {p : Program} {l : Launch} {e : Env} {s : State} {m : MethodId} {args : Array Value} {below : List Frame} {meth : Method} {c : Code} {Q : State → Prop}
variable {D : va_G} {tyc : Nat → ClassId} {A : Nat → Prop} {sa : ai_B} {ws : va_W} {g : Nat → Int32} {mi n : Nat}
variable {r : Nat → Int} {ad : Nat → Nat} {L S S' : List ai_V} {H : Heap} {locs : List Loc} {ls : Array Slot} {st : List Value} {pc mj : Nat} {nb : List (Int × Int)} {nL : Nat}
theorem pz_cap_ok : ∀ {caps : List (Nat × Int × Int)} {G : ai_G}, (∀ q ∈ caps, q.1 < G.1.1 ∧ q.2.1 ≤ r q.1 ∧ r q.1 ≤ q.2.2) → ai_Rel D tyc A s sa ws nL r ad L S G H locs ls st → ai_Rel D tyc A s sa ws nL r ad L S (pz_cap caps G) H locs ls st
  | [], _, _, hR => hR
  | q :: _, G, h, hR => pz_cap_ok (G := hg_cap G q.1 q.2) (fun x hx => h x (List.mem_cons_of_mem _ hx)) (hg_cap_ok hR (h q List.mem_cons_self).1 (h q List.mem_cons_self).2)
/-- other names of the same cells -/
theorem pz_ad {ad' : Nat → Nat} (hax : ai_ext 336 ad ad') (hR : ai_Rel D tyc A s sa ws nL r ad' L S (pz_G nb) H locs ls st) : ai_Rel D tyc A s sa ws nL r ad L S (pz_G nb) H locs ls st := by
  obtain ⟨N1, N2, N3, N4, N5⟩ := pz_N
  have hE := hR.env
  obtain ⟨hWd, hS, hL, hSt⟩ := hR.wd
  have hax' : ai_ext pz_h.1 ad' ad := by
    rw [N4]
    exact fn_rev hax
  have hWd' : ai_Wd D tyc A sa ws r ad (pz_G nb) H := fn_trW (N0 := 44) N3 ai_ext.rfl' hax' (by show 44 ≤ pz_E.1 + nb.length; rw [N1]; omega) hE hWd
  refine hWd'.rel hS ⟨hL.1, hL.2.1, hL.2.2.1, fun i hi => ?_⟩ (fn_trF ai_ext.rfl' hax' (Nat.le_refl _) (fun a ha => hSt.wf a ha) hSt)
  obtain ⟨v, a1, a2⟩ := hL.2.2.2 i hi
  exact ⟨v, a1, fn_trV ai_ext.rfl' hax' (Nat.le_refl _) a2.wf a2⟩
theorem pz_to_ok {L' : List ai_V} {ch : List (Nat × ai_X)} {f : ai_F} {ad0 : Nat → Nat} (h : pz_to nb pc L' S' ch f = true) (hax : ai_ext 336 ad0 ad) (hR : ai_Rel D tyc A s sa ws nL r ad f.2.1 f.2.2.1 f.2.2.2 H locs ls st) :
    f.1 = pc ∧ f.2.2.2.2.2.1 = 0 ∧ f.2.2.2.2.2.2 = 0 ∧ ∃ r2, ai_Rel D tyc A s sa ws nL r2 ad0 L' S' (pz_G nb) H locs ls st ∧ (∀ t, 1 ≤ t → t < 44 → ch.all (fun q => !(Nat.beq q.1 t)) = true → r2 t = r t) ∧ ∀ q ∈ ch, r2 q.1 = ai_vx r q.2 := by
  obtain ⟨N1, N2, N3, N4, N5⟩ := pz_N
  unfold pz_to at h
  simp only [Bool.and_eq_true] at h
  obtain ⟨h1, h2, h3, h4, h5, h6⟩ := h
  have h4 := Nat.eq_of_beq_eq_true h4
  have h5 := Nat.eq_of_beq_eq_true h5
  have hE := hR.env
  have hE0 : ai_gE r (1, [], []) := ⟨hE.1, Nat.succ_pos _, fun t ht => hE.2.2.1 t (Nat.lt_of_lt_of_le ht hE.2.1), fun q hq => (by cases hq), fun q hq => (by cases hq)⟩
  obtain ⟨r2, a1, a2, a3⟩ := hw_okY hE0 rfl ai_ext.rfl' hE.2.1 hR h6
  refine ⟨Nat.eq_of_beq_eq_true h1, h4, h5, r2, pz_ad hax ?_, fun t h1 h2 hc => ?_, fun q hq => a3 q (List.mem_append_right _ hq)⟩
  · have gz : f.2.2.2.2.2 = (0, 0) := Prod.ext h4 h5
    rw [gz] at a2
    have hE2 := a2.env
    have hlen : pz_nb.length = 43 := by decide +kernel
    have eN : (sm_E (1, [], []) (pz_nb ++ nb)).1 = (sm_E pz_E nb).1 := by
      show 1 + (pz_nb ++ nb).length = pz_E.1 + nb.length
      rw [N1, List.length_append, hlen]
      omega
    have hE3 : ai_gE r2 (sm_E pz_E nb) := by
      refine ⟨hE2.1, by rw [← eN]; exact hE2.2.1, fun t ht => hE2.2.2.1 t (by rw [eN]; exact ht), fun q hq => ?_, fun q hq => by cases hq⟩
      rw [← eN]
      refine hE2.2.2.2.1 q ?_
      show q ∈ sm_nb 1 (pz_nb ++ nb) ++ []
      rw [List.append_nil, pz_nbs, hlen]
      rcases List.mem_append.mp hq with hq | hq
      · rw [N1] at hq
        exact List.mem_append_right _ hq
      · have hq : q ∈ sm_nb 1 pz_nb ++ [] := hq
        rw [List.append_nil] at hq
        exact List.mem_append_left _ hq
    exact a2.re ai_ext.rfl' (by rw [← eN]; exact Nat.le_refl _) hE3 (by rw [← eN]; exact a2.stk)
  · have := a3 (t, (t, 0)) (List.mem_append_left _ (pz_o_mem h1 h2 hc))
    have : r2 t = r t + 0 := this
    rw [this, Int.add_zero]
/-- from a state of the parser on -/
theorem pz_seg {T : List (Nat × us_C)} {k0 : Nat} {stop : List Nat} {skip : Bool} {caps : List (Nat × Int × Int)} {chk : ai_F → Bool} (h : pz_sc T mi stop skip pc L S nb caps chk = true) (hpl : ls_plain mi = true) (F : ls_Fr p (lt_rm (n + 1) mi) s m args meth c D tyc A sa mi) (hl : l.stackTraces = false) (hT : lt_all k0 T) (hk : k0 + 4 ≤ n) (hW : pz_W tyc ws g) (hR : ai_Rel D tyc A s sa ws (ct_mt mi).2.2.1 r ad L S (pz_G nb) H locs ls st)
    (hc : ∀ q ∈ caps, q.1 < 44 + nb.length ∧ q.2.1 ≤ r q.1 ∧ r q.1 ≤ q.2.2)
    (k : ∀ f, chk f = true → ∀ (r' : Nat → Int) (ad' : Nat → Nat), ai_ext (44 + nb.length) r r' → ai_ext 336 ad ad' → ∀ (H' : Heap) (locs' : List Loc) (ls' : Array Slot) (st' : List Value), ai_Rel D tyc A s sa ws (ct_mt mi).2.2.1 r' ad' f.2.1 f.2.2.1 f.2.2.2 H' locs' ls' st' → W p l e (lt_rm (n + 1) mi) s m args below meth c H' locs' f.2.2.2.2.2.1 f.2.2.2.2.2.2 Q (F0 m f.1 ls' st')) :
    W p l e (lt_rm (n + 1) mi) s m args below meth c H locs 0 0 Q (F0 m pc ls st) := by
  obtain ⟨N1, N2, N3, N4, N5⟩ := pz_N
  obtain ⟨c1, c2⟩ := pz_cap_N (l := caps) (G := pz_G nb)
  have eN : (pz_G nb).1.1 = 44 + nb.length := by
    show pz_E.1 + nb.length = _
    rw [N1]
  have hRc := pz_cap_ok (caps := caps) (fun q hq => ⟨by rw [eN]; exact (hc q hq).1, (hc q hq).2⟩) hR
  have key : W p l e (lt_rm (n + 1) mi) s m args below meth c H locs (pz_cap caps (pz_G nb)).2.2.1 (pz_cap caps (pz_G nb)).2.2.2 Q (F0 m pc ls st) := by
    refine lz_ok (G := pz_cap caps (pz_G nb)) hpl F hl hT hk hW.2 h hRc (fun f hf => ?_)
    intro r' ad' x1 x2 x3 x4 H' locs' ls' st' hR'
    rw [c1, eN] at x1
    rw [c2] at x2
    have x2 : ai_ext pz_h.1 ad ad' := x2
    rw [N4] at x2
    exact k f hf r' ad' x1 x2 H' locs' ls' st' hR'
  rw [c2] at key
  exact key
end PS
