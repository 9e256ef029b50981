/-! ONE INSTRUCTION that makes cells -/
theorem ai_make_inv {bud : Nat × Nat} {d : ai_C} {n nx : Nat} {L S : List ai_V} {G : ai_G} {fs : List ai_F} (h : ai_make bud d n nx L S G = some (.inl fs)) : ∃ E hh cs sl h', G = (E, hh, cs, sl) ∧ cs + 1 ≤ bud.1 ∧ sl + n ≤ bud.2 ∧ ai_push hh d = some h' ∧ fs = [(nx, L, .inr (.inr (some (some hh.1))) :: S, (E, h', cs + 1, sl + n))] := by
  obtain ⟨E, hh, cs, sl⟩ := G
  unfold ai_make at h
  dsimp only at h
  split at h
  · rename_i h1 e1 e2 e3
    exact ⟨E, hh, cs, sl, h1, rfl, Nat.le_of_ble_eq_true e1, Nat.le_of_ble_eq_true e2, e3, ai_go_eq h⟩
  · cases h
section SM
variable {p : Program} {l : Launch} {e : Env} {R : Room} {s : State} {m : MethodId} {args : Array Value} {below : List Frame} {meth : Method} {c : Code} {Q : State → Prop}
variable {D : va_G} {tyc : Nat → ClassId} {A : Nat → Prop} {sa : ai_B} {ws0 : va_W} {nL : Nat} {cc : ByteArray} {own : String} {Ts : List Cond}
variable {r : Nat → Int} {ad : Nat → Nat} {L S : List ai_V} {G : ai_G} {H : Heap} {locs : List Loc} {ls : Array Slot} {st : List Value} {pc nx : Nat} {fs : List ai_F} {dflt : Nat → List ai_V} {kind : Nat → Nat → Nat}
/-- behind a new cell -/
theorem ai_Cn.push {S' : List ai_V} {st' : List Value} {E : ai_E} {hh h' : ai_H} {cs sl c' s' a : Nat} {d : ai_C} {x : va_E} {ws : va_W} {H1 : Heap} {locs1 : List Loc} (k : ai_Cn p l e R s m args below meth c Q D tyc A sa ws0 nL r ad (E, hh, cs, sl) (nx, L, .inr (.inr (some (some hh.1))) :: S', (E, h', c', s'))) (ep : ai_push hh d = some h')
    (hE : ai_gE r E) (hH : ai_gH tyc r ad E.1 ws0 hh ws) (hO : ai_gO sa.2 r ad E.1 hh) (hsa : ∀ i, i < 10 → ad (i + 1) = sa.1 i) (hL : ai_gL r ad E.1 hh.1 nL L ls) (hSt : ai_gF r ad E.1 hh.1 S' st') (hx : ai_gC tyc r (ai_updA ad hh.1 a) E.1 h'.1 d x)
    (hP : va_P D vwCl (ws ++ [(a, x)]) H1) (hD : va_D A (ws ++ [(a, x)])) (hS : va_S A s.heap H1 locs1) : W p l e R s m args below meth c H1 locs1 c' s' Q (F0 m nx ls (.ref a :: st')) := by
  obtain ⟨p1, p2, p3⟩ := ai_push_ok ep
  have hx16 := hH.1.1
  have ext := ai_updA_ext ad hh.1 a
  have hn : hh.1 ≤ h'.1 := by omega
  refine k r (ai_updA ad hh.1 a) ai_ext.rfl' ext (Nat.le_refl _) hn H1 locs1 ls (.ref a :: st') ⟨_, hP, hD, hS, hE, hH.push ep hx, ?_, fun i hi => ?_, hL.mono ai_ext.rfl' ext (Nat.le_refl _) hn, ⟨?_, ?_⟩, hSt.mono ai_ext.rfl' ext (Nat.le_refl _) hn⟩
  · exact (hO.mono hx16 ai_ext.rfl' ext (Nat.le_refl _)).heap (fun j hj => by rw [p3 j (by omega), if_neg (by omega)])
  · rw [ext _ (by omega)]; exact hsa i hi
  · show hh.1 < h'.1
    omega
  · rw [ai_updA_at]
/-- the class of an array of a kind is one -/
theorem ai_tyc_num (hK : va_K D vwCl (ai_tys tyc) s) {cA : ClassId} {ty : Nat} (hty : ty = 0 ∨ ty = 1 ∨ ty = 2) (hK2 : va_K D vwCl (ai_tys tyc ++ [(cA, ai_tyOf ty)]) s) : cA = tyc ty := by
  have h1 := (hK2.2 6 (cA, ai_tyOf ty) rfl).2
  rcases hty with rfl | rfl | rfl
  · exact Option.some.inj (h1.symm.trans (hK.2 0 _ rfl).2)
  · exact Option.some.inj (h1.symm.trans (hK.2 1 _ rfl).2)
  · exact Option.some.inj (h1.symm.trans (hK.2 2 _ rfl).2)
theorem ai_tyc_ref (hK : va_K D vwCl (ai_tys tyc) s) {cA : ClassId} {ty : Nat} (hty : ty = 3 ∨ ty = 4 ∨ ty = 5) (hK2 : va_K D vwCl (ai_tys tyc ++ [(cA, ai_tyOf ty)]) s) : cA = tyc ty := by
  have h1 := (hK2.2 6 (cA, ai_tyOf ty) rfl).2
  rcases hty with rfl | rfl | rfl
  · exact Option.some.inj (h1.symm.trans (hK.2 3 _ rfl).2)
  · obtain ⟨_, _, _, _, _, g1⟩ := h1
    obtain ⟨_, _, _, _, _, g2⟩ := (hK.2 4 _ rfl).2
    exact Option.some.inj (g1.symm.trans g2)
  · obtain ⟨_, _, _, _, _, g1⟩ := h1
    obtain ⟨_, _, _, _, _, g2⟩ := (hK.2 5 _ rfl).2
    exact Option.some.inj (g1.symm.trans g2)
theorem ai_new_obj {bud : Nat × Nat} {ci idx : Nat} (hx : p.tables.exec = Jvm.exec) (hb : c.code = cc) (hts : ∀ w ∈ Ts, w.before args s = true) (hown : s.vm.findClass own = some m.cls) (hK : va_K D vwCl (ai_tys tyc) s) (hA : ∀ q, s.heap.size ≤ q → A q) (hbud : bud.1 = R.cells ∧ bud.2 = R.slots) (hcl : ai_cls Ts dflt kind ci)
    (hlink : ∀ C T N, vwCl[ci]? = some (C, T, N) → Cond.classLink own idx C ∈ Ts) (hdg : decode cc pc = .ok (.new idx, 3))
    (h : ai_make bud (.inl (ci, dflt ci)) (dflt ci).length (pc + 3) L S G = some (.inl fs)) (hR : ai_Rel D tyc A s sa ws0 nL r ad L S G H locs ls st) (k : ∀ f ∈ fs, ai_Cn p l e R s m args below meth c Q D tyc A sa ws0 nL r ad G f) : W p l e R s m args below meth c H locs G.2.2.1 G.2.2.2 Q (F0 m pc ls st) := by
  obtain ⟨E, hh, cs, sl, h', rfl, b1, b2, ep, rfl⟩ := ai_make_inv h
  obtain ⟨C, T, N, ty, k1, k2, k3, k4, k5, k6, k7, k8, k9⟩ := hcl
  obtain ⟨ws, hP, hD, hS, hE, hH, hO, hsa, hL, hSt⟩ := hR
  rw [k7] at b2
  have hfs : ∀ j, j < N → defaultValue (ty j) = vp_V ((List.range N).map fun j => defaultValue (ty j)) j := fun j hj => by simp [vp_V, hj]
  refine va_new (C := C) (T := T) (N := N) (fs := (List.range N).map fun j => defaultValue (ty j)) hx hb hts k2 ty k3 hown (hts _ (hlink C T N k1)) (hts _ k5) (hts _ k6) hK hP hD hS hA k1 hfs (by show cs + 1 ≤ R.cells; omega) (by show sl + N ≤ R.slots; omega) hdg (fun q H1 hP1 hD1 hS1 => ?_)
  have kk := k _ List.mem_cons_self
  rw [k7] at kk
  refine kk.push ep hE hH hO hsa hL hSt ⟨_, rfl, ai_gF_of (by rw [k7]; simp) (fun j a v ha hv => ?_)⟩ hP1 hD1 hS1
  have hj : j < N := by
    have := (List.getElem?_eq_some_iff.mp hv).1
    simpa using this
  have hv2 : v = defaultValue (ty j) := by
    rw [List.getElem?_map, List.getElem?_range hj] at hv
    exact (Option.some.inj hv).symm
  rw [k8 j hj] at ha
  rw [hv2]
  exact ai_dv_ok hE.1 hE.2.1 ha
theorem ai_newa_ok {bud : Nat × Nat} {at' : ArrayType} {ty n : Nat} {S' : List ai_V} (hx : p.tables.exec = Jvm.exec) (hb : c.code = cc) (hts : ∀ w ∈ Ts, w.before args s = true) (hK : va_K D vwCl (ai_tys tyc) s) (hA : ∀ q, s.heap.size ≤ q → A q) (hbud : bud.1 = R.cells ∧ bud.2 = R.slots)
    (hat : newarray.typeOf at' = ai_tyOf ty ∧ (ty = 0 ∨ ty = 1 ∨ ty = 2) ∧ Cond.arrayClass (ai_tyOf ty) ∈ Ts) (hn : n < 1000000) (hdg : decode cc pc = .ok (.newarray at', 2)) (hS0 : S = .inl (0, .ofNat n) :: S')
    (h : ai_make bud (.inr (.inl (ty, n, 0, 0, []))) n (pc + 2) L S' G = some (.inl fs)) (hR : ai_Rel D tyc A s sa ws0 nL r ad L S G H locs ls st) (k : ∀ f ∈ fs, ai_Cn p l e R s m args below meth c Q D tyc A sa ws0 nL r ad G f) : W p l e R s m args below meth c H locs G.2.2.1 G.2.2.2 Q (F0 m pc ls st) := by
  obtain ⟨E, hh, cs, sl, h', rfl, b1, b2, ep, rfl⟩ := ai_make_inv h
  obtain ⟨ws, hP, hD, hS, hE, hH, hO, hsa, hL, hSt⟩ := hR
  subst hS0
  obtain ⟨ix, t, rfl, hi1, hi2, h2⟩ := ai_gF.int hSt
  have hij : ix.toInt = (n : Int) := by
    rw [hi2]
    show r 0 + (n : Int) = n
    rw [hE.1]; omega
  obtain ⟨hat, hty, hac⟩ := hat
  have hneg : ¬ ix < 0 := by
    rw [Int32.lt_iff_toInt_lt, Int32.toInt_zero]; omega
  have hN : ix.toNatClampNeg = n := by rw [ai_clamp, hij]; rfl
  have h0 : (0 : Int32).toInt = 0 := rfl
  have h0l : (0 : Int64).toInt = 0 := rfl
  have kk := k _ List.mem_cons_self
  rcases hty with rfl | rfl | rfl
  · refine va_newa (a0 := (n, .inl (fun _ => 0))) (ty := .int) hx hb (by rw [hat]; exact hts _ hac) hat hK hP hD hS hA (fun cA => rfl) hneg hN (by show n * 4 ≤ _; omega) (by show cs + 1 ≤ R.cells; omega) (by show sl + n ≤ R.slots; omega) hdg (fun q cA H1 hK1 hP1 hD1 hS1 => ?_)
    have ecA := ai_tyc_num hK (Or.inl rfl) hK1
    subst ecA
    exact kk.push ep hE hH hO hsa hL h2 (Or.inr ⟨Or.inl rfl, _, rfl, fun q hq => (by cases hq), fun j hj => ⟨by rw [h0]; exact Int.le_refl _, by rw [h0]; exact Int.le_refl _⟩⟩) hP1 hD1 hS1
  · refine va_newa (a0 := (n, .inr (.inl (fun _ => 0)))) (ty := .long) hx hb (by rw [hat]; exact hts _ hac) hat hK hP hD hS hA (fun cA => rfl) hneg hN (by show n * 8 ≤ _; omega) (by show cs + 1 ≤ R.cells; omega) (by show sl + n ≤ R.slots; omega) hdg (fun q cA H1 hK1 hP1 hD1 hS1 => ?_)
    have ecA := ai_tyc_num hK (Or.inr (Or.inl rfl)) hK1
    subst ecA
    exact kk.push ep hE hH hO hsa hL h2 (Or.inl ⟨rfl, _, rfl, fun q hq => (by cases hq), fun j hj => ⟨by rw [h0l]; exact Int.le_refl _, by rw [h0l]; exact Int.le_refl _⟩⟩) hP1 hD1 hS1
  · refine va_newa (a0 := (n, .inl (fun _ => 0))) (ty := .boolean) hx hb (by rw [hat]; exact hts _ hac) hat hK hP hD hS hA (fun cA => rfl) hneg hN (by show n * 1 ≤ _; omega) (by show cs + 1 ≤ R.cells; omega) (by show sl + n ≤ R.slots; omega) hdg (fun q cA H1 hK1 hP1 hD1 hS1 => ?_)
    have ecA := ai_tyc_num hK (Or.inr (Or.inr rfl)) hK1
    subst ecA
    exact kk.push ep hE hH hO hsa hL h2 (Or.inr ⟨Or.inr rfl, _, rfl, fun q hq => (by cases hq), fun j hj => ⟨by rw [h0]; exact Int.le_refl _, by rw [h0]; exact Int.le_refl _⟩⟩) hP1 hD1 hS1
theorem ai_anew_ok {bud : Nat × Nat} {idx ty n : Nat} {S' : List ai_V} (hx : p.tables.exec = Jvm.exec) (hb : c.code = cc) (hts : ∀ w ∈ Ts, w.before args s = true) (hown : s.vm.findClass own = some m.cls) (hK : va_K D vwCl (ai_tys tyc) s) (hAO : va_AO RX4 s ∧ va_AO "java/lang/String" s) (hA : ∀ q, s.heap.size ≤ q → A q) (hbud : bud.1 = R.cells ∧ bud.2 = R.slots)
    (hat : (ty = 4 ∧ Cond.classLink own idx RX4 ∈ Ts) ∨ (ty = 5 ∧ Cond.classLink own idx "java/lang/String" ∈ Ts)) (hn : n < 1000000) (hdg : decode cc pc = .ok (.anewarray idx, 3)) (hS0 : S = .inl (0, .ofNat n) :: S')
    (h : ai_make bud (.inr (.inr (ty, List.replicate n none))) n (pc + 3) L S' G = some (.inl fs)) (hR : ai_Rel D tyc A s sa ws0 nL r ad L S G H locs ls st) (k : ∀ f ∈ fs, ai_Cn p l e R s m args below meth c Q D tyc A sa ws0 nL r ad G f) : W p l e R s m args below meth c H locs G.2.2.1 G.2.2.2 Q (F0 m pc ls st) := by
  obtain ⟨E, hh, cs, sl, h', rfl, b1, b2, ep, rfl⟩ := ai_make_inv h
  obtain ⟨ws, hP, hD, hS, hE, hH, hO, hsa, hL, hSt⟩ := hR
  subst hS0
  obtain ⟨ix, t, rfl, hi1, hi2, h2⟩ := ai_gF.int hSt
  have hij : ix.toInt = (n : Int) := by
    rw [hi2]
    show r 0 + (n : Int) = n
    rw [hE.1]; omega
  have hneg : ¬ ix < 0 := by
    rw [Int32.lt_iff_toInt_lt, Int32.toInt_zero]; omega
  have hN : ix.toNatClampNeg = n := by rw [ai_clamp, hij]; rfl
  have kk := k _ List.mem_cons_self
  have hg : ∀ {ty' : Nat} {q : Nat}, ty' = 3 ∨ ty' = 4 ∨ ty' = 5 → ai_gC tyc r (ai_updA ad hh.1 q) E.1 h'.1 (.inr (.inr (ty', List.replicate n none))) (.inl (tyc ty', n, .inr (.inr (.inr (.inr (fun _ => none)))))) := fun ht => ⟨ht, _, by rw [List.length_replicate], fun a b hb => ⟨fun _ => rfl, fun z hz => by
    have := List.eq_of_mem_replicate (List.mem_of_getElem? hb)
    rw [this] at hz; cases hz⟩⟩
  rcases hat with ⟨rfl, hl⟩ | ⟨rfl, hl⟩
  · refine va_newq hx hb hown (hts _ hl) hAO.1 hK hP hD hS hA hneg hN (by omega) (by show cs + 1 ≤ R.cells; omega) (by show sl + n ≤ R.slots; omega) hdg (fun q cA H1 hK1 hP1 hD1 hS1 => ?_)
    have ecA := ai_tyc_ref hK (Or.inr (Or.inl rfl)) hK1
    subst ecA
    exact kk.push ep hE hH hO hsa hL h2 (hg (Or.inr (Or.inl rfl))) hP1 hD1 hS1
  · refine va_newq hx hb hown (hts _ hl) hAO.2 hK hP hD hS hA hneg hN (by omega) (by show cs + 1 ≤ R.cells; omega) (by show sl + n ≤ R.slots; omega) hdg (fun q cA H1 hK1 hP1 hD1 hS1 => ?_)
    have ecA := ai_tyc_ref hK (Or.inr (Or.inr rfl)) hK1
    subst ecA
    exact kk.push ep hE hH hO hsa hL h2 (hg (Or.inr (Or.inr rfl))) hP1 hD1 hS1
end SM
