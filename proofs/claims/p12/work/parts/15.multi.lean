/-! NEW ARRAYS OF ARRAYS, COPIES, SWITCHES -/
/-- the heap while cells come one after the other: addresses and what is new as at the end -/
noncomputable def ai_gX (tyc : Nat → ClassId) (r : Nat → Int) (ad : Nat → Nat) (N n : Nat) (ws0 : va_W) (h : ai_H) (ws : va_W) : Prop :=
  (16 ≤ h.1 ∧ h.1 ≤ n ∧ n ≤ 512 ∧ ws.length + 16 = h.1) ∧ (∀ k q, ws[k]? = some q → q.1 = ad (k + 16)) ∧ (∀ k, k + 16 < h.1 → ∀ c, ai_cell h (k + 16) = some c → ∃ e, ws[k]? = some (ad (k + 16), e) ∧ ai_gC tyc r ad N n c e) ∧ ∀ k, k + 16 < h.1 → ai_cell h (k + 16) = none → ws[k]? = ws0[k]?
theorem ai_gH.gx {tyc : Nat → ClassId} {r : Nat → Int} {ad ad' : Nat → Nat} {N n : Nat} {ws0 ws : va_W} {h : ai_H} (g : ai_gH tyc r ad N ws0 h ws) (ha : ai_ext h.1 ad ad') (hn : h.1 ≤ n) (hn2 : n ≤ 512) : ai_gX tyc r ad' N n ws0 h ws := by
  obtain ⟨⟨g1, g2, g3⟩, g4, g5, g6⟩ := g
  refine ⟨⟨g1, hn, hn2, g3⟩, fun k q hk => ?_, fun k hk c hc => ?_, g6⟩
  · have : k < ws.length := (List.getElem?_eq_some_iff.mp hk).1
    rw [g4 k q hk, ha _ (by omega)]
  · obtain ⟨e, h1, h2⟩ := g5 k hk c hc
    exact ⟨e, by rw [ha _ (by omega)]; exact h1, h2.mono ai_ext.rfl' ha (Nat.le_refl _) hn⟩
theorem ai_gX.gh {tyc : Nat → ClassId} {r : Nat → Int} {ad : Nat → Nat} {N : Nat} {ws0 ws : va_W} {h : ai_H} (g : ai_gX tyc r ad N h.1 ws0 h ws) : ai_gH tyc r ad N ws0 h ws := ⟨⟨g.1.1, g.1.2.2.1, g.1.2.2.2⟩, g.2⟩
theorem ai_gX.push {tyc : Nat → ClassId} {r : Nat → Int} {ad : Nat → Nat} {N n : Nat} {ws0 ws : va_W} {h h' : ai_H} (g : ai_gX tyc r ad N n ws0 h ws) {c : ai_C} (e : ai_push h c = some h') (hn : h'.1 ≤ n) {x : va_E} (hx : ai_gC tyc r ad N n c x) : ai_gX tyc r ad N n ws0 h' (ws ++ [(ad h.1, x)]) := by
  obtain ⟨p1, p2, p3⟩ := ai_push_ok e
  obtain ⟨⟨g1, g2, g2', g3⟩, g4, g5, g6⟩ := g
  refine ⟨⟨by omega, hn, g2', by rw [List.length_append]; show _ + 1 + 16 = _; omega⟩, fun k z hk => ?_, fun k hk d hd => ?_, fun k hk hd => ?_⟩
  · by_cases el : k < ws.length
    · rw [List.getElem?_append_left el] at hk
      exact g4 k z hk
    · rw [List.getElem?_append_right (by omega)] at hk
      have h0 : k - ws.length < 1 := (List.getElem?_eq_some_iff.mp hk).1
      have h1 : k = ws.length := by omega
      subst h1
      rw [Nat.sub_self] at hk
      cases hk
      rw [g3]
  · rw [p3 _ (by omega)] at hd
    by_cases ek : k + 16 = h.1
    · rw [if_pos ek] at hd
      cases hd
      have h1 : k = ws.length := by omega
      subst h1
      refine ⟨x, ?_, hx⟩
      rw [List.getElem?_append_right (Nat.le_refl _), Nat.sub_self, g3]
      rfl
    · rw [if_neg ek] at hd
      obtain ⟨x2, h1, h2⟩ := g5 k (by omega) d hd
      have el : k < ws.length := (List.getElem?_eq_some_iff.mp h1).1
      exact ⟨x2, by rw [List.getElem?_append_left el]; exact h1, h2⟩
  · rw [p3 _ (by omega)] at hd
    by_cases ek : k + 16 = h.1
    · rw [if_pos ek] at hd; cases hd
    · rw [if_neg ek] at hd
      rw [List.getElem?_append_left (by omega)]
      exact g6 k (by omega) hd
theorem ai_pushes_le : ∀ {l : List ai_C} {h h' : ai_H}, ai_pushes h l = some h' → h'.1 = h.1 + l.length ∧ (∀ k, k < h.1 → k < 512 → ai_cell h' k = ai_cell h k) ∧ (h.1 ≤ 512 → h'.1 ≤ 512)
  | [], h, h', e => by
    cases e
    exact ⟨rfl, fun _ _ _ => rfl, fun h => h⟩
  | c :: l, h, h', e => by
    unfold ai_pushes at e
    cases ep : ai_push h c with
    | none => rw [ep] at e; cases e
    | some h1 =>
      rw [ep] at e
      obtain ⟨p1, p2, p3⟩ := ai_push_ok ep
      obtain ⟨g1, g2, g3⟩ := ai_pushes_le (l := l) e
      refine ⟨by rw [g1, p2, List.length_cons]; omega, fun k hk hk2 => ?_, fun _ => g3 (by omega)⟩
      rw [g2 k (by omega) hk2, p3 k hk2, if_neg (by omega)]
theorem ai_gX.pushes {tyc : Nat → ClassId} {r : Nat → Int} {ad : Nat → Nat} {N n : Nat} {ws0 : va_W} : ∀ {l : List ai_C} {h h' : ai_H} {ws : va_W} (xs : List va_E), ai_gX tyc r ad N n ws0 h ws → ai_pushes h l = some h' → h'.1 ≤ n → xs.length = l.length → (∀ (i : Nat) (c : ai_C) (x : va_E), l[i]? = some c → xs[i]? = some x → ai_gC tyc r ad N n c x) → ∀ ys : va_W, ys.length = l.length → (∀ (i : Nat) (y : Nat × va_E), ys[i]? = some y → y.1 = ad (h.1 + i) ∧ xs[i]? = some y.2) → ai_gX tyc r ad N n ws0 h' (ws ++ ys)
  | [], h, h', ws, xs, g, e, _, _, _, ys, hy, _ => by
    cases e
    have : ys = [] := List.length_eq_zero_iff.mp hy
    subst this
    rw [List.append_nil]; exact g
  | c :: l, h, h', ws, xs, g, e, hn, hlen, hc, ys, hy, hys => by
    unfold ai_pushes at e
    cases ep : ai_push h c with
    | none => rw [ep] at e; cases e
    | some h1 =>
      rw [ep] at e
      obtain ⟨p1, p2, p3⟩ := ai_push_ok ep
      cases xs with
      | nil => cases hlen
      | cons x xs => cases ys with
        | nil => cases hy
        | cons y ys =>
          have hle := (ai_pushes_le e).1
          obtain ⟨y1, y2⟩ := hys 0 y rfl
          cases y2
          have g1 := g.push ep (by omega) (hc 0 c y.2 rfl rfl)
          have g2 := ai_gX.pushes (l := l) xs g1 e hn (Nat.succ.inj hlen) (fun i d z hd hz => hc (i + 1) d z (by rw [List.getElem?_cons_succ]; exact hd) (by rw [List.getElem?_cons_succ]; exact hz)) ys (Nat.succ.inj hy) (fun i z hz => by
            obtain ⟨k1, k2⟩ := hys (i + 1) z (by rw [List.getElem?_cons_succ]; exact hz)
            rw [List.getElem?_cons_succ] at k2
            exact ⟨by rw [k1, p2]; congr 1; omega, k2⟩)
          rw [List.append_assoc] at g2
          have ey : (ad h.1, y.2) = y := by
            rw [Nat.add_zero] at y1
            rw [← y1]
          rw [ey] at g2
          exact g2
theorem ai_ids_get : ∀ {n a k : Nat} {q : Option Nat}, (ai_ids a n)[k]? = some q → q = some (a + k) ∧ k < n
  | 0, _, _, _, h => by cases h
  | n + 1, a, 0, q, h => by
    cases h
    exact ⟨rfl, Nat.succ_pos _⟩
  | n + 1, a, k + 1, q, h => by
    have h : (ai_ids (a + 1) n)[k]? = some q := h
    obtain ⟨h1, h2⟩ := ai_ids_get h
    exact ⟨by rw [h1]; congr 1; omega, Nat.succ_lt_succ h2⟩
theorem ai_ids_len : ∀ (n a : Nat), (ai_ids a n).length = n
  | 0, _ => rfl
  | n + 1, a => congrArg Nat.succ (ai_ids_len n (a + 1))
section SMU
variable {p : Program} {l : Launch} {e : Env} {R : Room} {s : State} {m : MethodId} {args : Array Value} {below : List Frame} {meth : Method} {c : Code} {Q : State → Prop}
variable {D : va_G} {tyc : Nat → ClassId} {A : Nat → Prop} {sa : ai_B} {ws0 : va_W} {nL : Nat} {cc : ByteArray} {own : String} {Ts : List Cond}
variable {r : Nat → Int} {ad : Nat → Nat} {L S : List ai_V} {G : ai_G} {H : Heap} {locs : List Loc} {ls : Array Slot} {st : List Value} {pc nx : Nat} {fs : List ai_F} {dflt : Nat → List ai_V} {kind : Nat → Nat → Nat}
theorem ai_mult_ok {bud : Nat × Nat} {idx : Nat} (hx : p.tables.exec = Jvm.exec) (hb : c.code = cc) (hts : ∀ w ∈ Ts, w.before args s = true) (hown : s.vm.findClass own = some m.cls) (hK : va_K D vwCl (ai_tys tyc) s) (hAO : va_AOA .int s) (hA : ∀ q, s.heap.size ≤ q → A q) (hbud : bud.1 = R.cells ∧ bud.2 = R.slots)
    (hat : Cond.classLink own idx "[[I" ∈ Ts ∧ Cond.arrayClass .int ∈ Ts) (hdg : decode cc pc = .ok (.multianewarray idx 2, 4))
    (h : ai_mult bud (pc + 4) L S G = some (.inl fs)) (hR : ai_Rel D tyc A s sa ws0 nL r ad L S G H locs ls st) (k : ∀ f ∈ fs, ai_Cn p l e R s m args below meth c Q D tyc A sa ws0 nL r ad G f) : W p l e R s m args below meth c H locs G.2.2.1 G.2.2.2 Q (F0 m pc ls st) := by
  unfold ai_mult at h
  split at h
  · rename_i kk nn S'
    obtain ⟨E, hh, cs, sl⟩ := G
    dsimp only at h
    split at h
    · rename_i e1 e2 e3 e4
      have e1 := Nat.le_of_ble_eq_true e1
      have e2 := Nat.le_of_ble_eq_true e2
      have e3 : nn < 512 := Nat.le_of_ble_eq_true e3
      have e4 : kk < 1000000 := Nat.le_of_ble_eq_true e4
      split at h
      · rename_i h2 ep
        have hf := ai_go_eq h
        subst hf
        obtain ⟨ws, hP, hD, hS, hE, hH, hO, hsa, hL, hSt⟩ := hR
        obtain ⟨kx, t0, rfl, hk1, hk2, h0⟩ := ai_gF.int hSt
        obtain ⟨nxx, t, rfl, hn1, hn2, h1⟩ := h0.int
        have hkk : kx.toInt = (kk : Int) := by
          rw [hk2]
          show r 0 + (kk : Int) = kk
          rw [hE.1]; omega
        have hnn : nxx.toInt = (nn : Int) := by
          rw [hn2]
          show r 0 + (nn : Int) = nn
          rw [hE.1]; omega
        have hkneg : ¬ kx < 0 := by rw [Int32.lt_iff_toInt_lt, Int32.toInt_zero]; omega
        have hnneg : ¬ nxx < 0 := by rw [Int32.lt_iff_toInt_lt, Int32.toInt_zero]; omega
        have hkN : kx.toNatClampNeg = kk := by rw [ai_clamp, hkk]; rfl
        have hnN : nxx.toNatClampNeg = nn := by rw [ai_clamp, hnn]; rfl
        have hle := (ai_pushes_le ep).1
        rw [List.length_cons, List.length_replicate] at hle
        have hpn : va_P D vwCl (ws ++ va_pl [] (fun _ => .inr (0, []))) H := by
          show va_P D vwCl (ws ++ []) H
          rw [List.append_nil]; exact hP
        have hdn : va_D A (ws ++ va_pl [] (fun _ => .inr (0, []))) := by
          show va_D A (ws ++ [])
          rw [List.append_nil]; exact hD
        refine va_mna (X := ws) (L := []) (f := fun _ => .inr (0, [])) (ty := .int) (cy := tyc 0) (z := (kk, .inl (fun _ => 0))) hx hb hown (hts _ hat.1) hAO (hts _ hat.2) (hK.2 0 _ rfl).2 hK hpn hdn hS hA hnneg hkneg hnN hkN (by omega) (by show kk * 4 ≤ _; omega) (by omega) rfl rfl (by show cs + (1 + nn) ≤ R.cells; omega) (by show sl + (nn + nn * kk) ≤ R.slots; omega) (fun cA => ?_) hdg (fun q rr cA H1 hinj hfr hK1 hP1 hD1 hS1 => ?_)
        · first
            | rfl
            | (show Jvm.Free.Multi.innerC cA kk (.int 0) = arrV cA kk (fun _ => .int 0); rw [← arrV_new]; rfl)
            | (show _ = arrV cA kk (fun _ => .int 0); rw [← arrV_new]; rfl)
        · have ecA : cA = tyc 3 := ai_tyc_ref hK (Or.inl rfl) hK1
          subst ecA
          obtain ⟨-, hkeep, h512⟩ := ai_pushes_le ep
          have h512 := h512 hH.1.2.1
          have h16 : 16 ≤ hh.1 := hH.1.1
          obtain ⟨ad', had⟩ : ∃ z : Nat → Nat, z = fun t => if t < hh.1 then ad t else if t = hh.1 then q else rr (t - hh.1 - 1) := ⟨_, rfl⟩
          have ext : ai_ext hh.1 ad ad' := fun t ht => by rw [had]; exact if_pos ht
          have ad0 : ad' hh.1 = q := by rw [had]; simp
          have ad1 : ∀ i, ad' (hh.1 + 1 + i) = rr i := fun i => by
            rw [had]
            show (if hh.1 + 1 + i < hh.1 then _ else if hh.1 + 1 + i = hh.1 then _ else rr (hh.1 + 1 + i - hh.1 - 1)) = _
            rw [if_neg (by omega), if_neg (by omega), show hh.1 + 1 + i - hh.1 - 1 = i by omega]
          have hlen2 : h2.1 = hh.1 + (nn + 1) := hle
          have hnle : hh.1 ≤ h2.1 := by omega
          have gx := hH.gx (ad' := ad') (n := h2.1) ext hnle h512
          generalize hE1 : (Sum.inl (tyc 3, nn, Sum.inr (Sum.inr (Sum.inr (Sum.inr (fun i => if i < nn then some (rr i) else none))))) : va_E) = oe at hP1 hD1
          generalize hE2 : (Sum.inl (tyc 0, kk, Sum.inl (fun _ => (0 : Int32))) : va_E) = ie at hP1 hD1
          rw [List.append_assoc] at hP1 hD1
          generalize hY : [(q, oe)] ++ va_pl ([] ++ (List.range nn).map rr) (vr_up (fun _ => .inr (0, [])) ((List.range nn).map rr) ie) = ys at hP1 hD1
          have hyl : ys.length = nn + 1 := by
            rw [← hY]
            simp [va_pl]
          have hy0 : ∀ (i : Nat) (y : Nat × va_E), ys[i]? = some y → y.1 = ad' (hh.1 + i) ∧ (oe :: List.replicate nn ie)[i]? = some y.2 := by
            intro i y hy
            have hi : i < nn + 1 := by rw [← hyl]; exact (List.getElem?_eq_some_iff.mp hy).1
            rw [← hY] at hy
            cases i with
            | zero =>
              cases hy
              exact ⟨ad0.symm, rfl⟩
            | succ i =>
              have hi : i < nn := by omega
              have hy : (va_pl ([] ++ (List.range nn).map rr) (vr_up (fun _ => .inr (0, [])) ((List.range nn).map rr) ie))[i]? = some y := hy
              unfold va_pl at hy
              rw [List.nil_append, List.getElem?_map, List.getElem?_map, List.getElem?_range hi] at hy
              have hy := Option.some.inj hy
              rw [← hy]
              refine ⟨?_, ?_⟩
              · show rr i = ad' (hh.1 + (i + 1))
                rw [show hh.1 + (i + 1) = hh.1 + 1 + i by omega, ad1]
              · rw [List.getElem?_cons_succ, List.getElem?_replicate, if_pos hi]
                show some ie = some (vr_up (fun _ => (Sum.inr (0, []) : va_E)) (List.map rr (List.range nn)) ie (rr i))
                rw [vr_up_in (List.mem_map.mpr ⟨i, List.mem_range.mpr hi, rfl⟩)]
          have hgc : ∀ (i : Nat) (d : ai_C) (x : va_E), ((Sum.inr (Sum.inr (3, ai_ids (hh.1 + 1) nn)) : ai_C) :: List.replicate nn (Sum.inr (Sum.inl (0, kk, 0, 0, []))))[i]? = some d → (oe :: List.replicate nn ie)[i]? = some x → ai_gC tyc r ad' E.1 h2.1 d x := by
            intro i d x hd hx9
            cases i with
            | zero =>
              cases hd
              cases hx9
              refine ⟨Or.inl rfl, _, by rw [← hE1, ai_ids_len], fun a b hb9 => ?_⟩
              obtain ⟨g1, g2⟩ := ai_ids_get hb9
              subst g1
              refine ⟨fun h => (by cases h), fun z hz => ?_⟩
              cases hz
              refine ⟨by omega, ?_⟩
              show (if a < nn then some (rr a) else none) = _
              rw [if_pos g2, ad1]
            | succ i =>
              rw [List.getElem?_cons_succ] at hd hx9
              have e8 := List.eq_of_mem_replicate (List.mem_of_getElem? hd)
              have e9 := List.eq_of_mem_replicate (List.mem_of_getElem? hx9)
              subst e8; subst e9
              have h0' : (0 : Int32).toInt = 0 := rfl
              exact Or.inr ⟨Or.inl rfl, _, hE2.symm, fun z hz => (by cases hz), fun j hj => ⟨by rw [h0']; exact Int.le_refl _, by rw [h0']; exact Int.le_refl _⟩⟩
          have gx2 := gx.pushes (oe :: List.replicate nn ie) ep (Nat.le_refl _) (by simp) hgc ys (by rw [hyl]; simp) hy0
          refine k _ List.mem_cons_self r ad' ai_ext.rfl' ext (Nat.le_refl _) hnle H1 locs ls (.ref q :: t) ⟨_, hP1, hD1, hS1, hE, gx2.gh, ?_, fun i hi => ?_, hL.mono ai_ext.rfl' ext (Nat.le_refl _) hnle, ⟨?_, ?_⟩, h1.mono ai_ext.rfl' ext (Nat.le_refl _) hnle⟩
          · exact (hO.mono h16 ai_ext.rfl' ext (Nat.le_refl _)).heap (fun j hj => hkeep j (by omega) (by omega))
          · rw [ext _ (by omega)]; exact hsa i hi
          · show hh.1 < h2.1
            omega
          · rw [ad0]
      · cases h
    · cases h
  · cases h
end SMU
