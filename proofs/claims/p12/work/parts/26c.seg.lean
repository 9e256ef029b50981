/-! SEGMENTS: a run from a place to places where it is stopped; what is behind them is shown by hand -/
noncomputable def sg_many {α β : Type} (go : α → Option (List β)) : List α → Option (List β)
  | [] => some []
  | f :: l => match go f with
    | none => none
    | some a => match sg_many go l with
      | none => none
      | some b => some (a ++ b)
theorem sg_many_ok {α β : Type} {go : α → Option (List β)} : ∀ {l : List α} {os : List β}, sg_many go l = some os → ∀ f ∈ l, ∃ o, go f = some o ∧ ∀ g ∈ o, g ∈ os
  | [], _, _, f, hf => by cases hf
  | f :: l, os, h, f', hf => by
    unfold sg_many at h
    split at h
    · cases h
    · rename_i a e1
      split at h
      · cases h
      · rename_i b e2
        cases h
        rcases List.mem_cons.mp hf with rfl | hf
        · exact ⟨a, e1, fun g hg => List.mem_append_left _ hg⟩
        · obtain ⟨o, g1, g2⟩ := sg_many_ok e2 f' hf
          exact ⟨o, g1, fun g hg => List.mem_append_right _ (g2 g hg)⟩
noncomputable def sg_run (code : Nat → Option (ClassFile.Instr × Nat × Nat × Nat)) (hand : Nat → Nat → Option (Nat × Nat)) (bud : Nat × Nat) (cbud : Nat → Nat × Nat) (dflt : Nat → List ai_V) (kind : Nat → Nat → Nat) (callee : Nat → List ai_V → ai_G → ai_Q) (stop : Nat → Bool) : Nat → Bool → Nat → List ai_V → List ai_V → ai_G → Option (List ai_F)
  | 0, _, _, _, _, _ => none
  | n + 1, skip, pc, L, S, G => match (match skip with | true => false | false => stop pc) with
    | true => some [(pc, L, S, G)]
    | false => match code pc with
      | none => none
      | some (i, len, a, b) => match ai_step i bud dflt kind pc (pc + len) a b L S G with
        | none => none
        | some (.inl fs) => sg_many (fun f => sg_run code hand bud cbud dflt kind callee stop n false f.1 f.2.1 f.2.2.1 f.2.2.2) fs
        | some (.inr (.inl (mi, args, S', pc'))) => match G with
          | (E, h, c, s) => match cbud mi with
            | (bc, bs) => match Nat.ble (c + bc) bud.1, Nat.ble (s + bs) bud.2 with
              | true, true => match callee mi args (E, h, 0, 0) with
                | none => none
                | some outs => match ai_calm i outs with
                  | false => none
                  | true => sg_many (fun f => match f with
                    | (r, (E, h, _, _)) => match r with
                      | .inr none => sg_run code hand bud cbud dflt kind callee stop n false pc' L S' (E, h, c + bc, s + bs)
                      | .inr (some v) => sg_run code hand bud cbud dflt kind callee stop n false pc' L (v :: S') (E, h, c + bc, s + bs)
                      | .inl e => match hand pc e with
                        | some (k, pcn) => sg_run code hand bud cbud dflt kind callee stop n false pcn (ai_lset L k (.inr (.inr none))) [] (E, h, c + bc, s + bs)
                        | none => none) outs
              | _, _ => none
        | some (.inr (.inr _)) => none
section SG
variable {p : Program} {l : Launch} {e : Env} {R : Room} {s : State} {m : MethodId} {args : Array Value} {below : List Frame} {meth : Method} {c : Code} {Q : State → Prop}
variable {D : va_G} {tyc : Nat → ClassId} {A : Nat → Prop} {sa : ai_B} {ws0 : va_W} {nL : Nat} {cc : ByteArray} {own : String} {Wg : List Cond} {strs : List ai_Z} {nws : List Cond} {bud : Nat × Nat} {dflt : Nat → List ai_V} {kind : Nat → Nat → Nat} {ini : Bool} {ret : Option FieldType} {tb : List (Nat × Nat × Nat × Nat)}
variable {code : Nat → Option (ClassFile.Instr × Nat × Nat × Nat)} {hand : Nat → Nat → Option (Nat × Nat)} {cbud : Nat → Nat × Nat} {callee : Nat → List ai_V → ai_G → ai_Q} {stop : Nat → Bool} {mt : Nat → ai_MT} {rm : Nat → Room}
set_option maxHeartbeats 4000000 in
theorem sg_ok (F : ai_Fr p R s m args meth c D tyc A sa nL cc own Wg strs nws bud dflt kind) (hgood : ∀ w ∈ Wg, goodWord w = true) (hnk : ∀ w ∈ nws, ai_nk w = true) (hini : ini = true → meth.name = "<init>")
    (hcode : ai_tab Wg nws strs mt own ini ret cc tb code) (hmt : ∀ mi aa G o, callee mi aa G = some o → ai_mok Wg (mt mi))
    (hhand : ∀ pc z k pcn, hand pc z = some (k, pcn) → (code pcn = none ∧ stop pcn = false) ∨ ai_hk Wg nws own nL cc c.exceptionTable.toList pc z k pcn)
    (hrm : ∀ mi, (rm mi).frames + 1 ≤ R.frames ∧ (rm mi).locals + 64 ≤ R.locals ∧ (rm mi).cells = (cbud mi).1 ∧ (rm mi).slots = (cbud mi).2)
    (hcall : ∀ mi aa G o, callee mi aa G = some o → ai_Ct l D tyc A sa strs nws Wg (mt mi) (rm mi) aa G o) (hPw : ai_Pw tyc ws0) : ∀ (n : Nat) (skip : Bool) (pc : Nat) (L S : List ai_V) (G : ai_G) (fs : List ai_F) (r : Nat → Int) (ad : Nat → Nat) (H : Heap) (locs : List Loc) (ls : Array Slot) (st : List Value),
    sg_run code hand bud cbud dflt kind callee stop n skip pc L S G = some fs → ai_Rel D tyc A s sa ws0 nL r ad L S G H locs ls st →
    (∀ f ∈ fs, ∀ (r' : Nat → Int) (ad' : Nat → Nat), ai_ext G.1.1 r r' → ai_ext G.2.1.1 ad ad' → G.1.1 ≤ f.2.2.2.1.1 → G.2.1.1 ≤ f.2.2.2.2.1.1 → ∀ (H' : Heap) (locs' : List Loc) (ls' : Array Slot) (st' : List Value), ai_Rel D tyc A s sa ws0 nL r' ad' f.2.1 f.2.2.1 f.2.2.2 H' locs' ls' st' → W p l e R s m args below meth c H' locs' f.2.2.2.2.2.1 f.2.2.2.2.2.2 Q (F0 m f.1 ls' st')) →
    W p l e R s m args below meth c H locs G.2.2.1 G.2.2.2 Q (F0 m pc ls st) := by
  intro n
  induction n with
  | zero => intro skip pc L S G fs r ad H locs ls st h; cases h
  | succ n ih =>
    intro skip pc L S G fs r ad H locs ls st h hR kk
    unfold sg_run at h
    split at h
    · cases h
      exact kk _ List.mem_cons_self r ad ai_ext.rfl' ai_ext.rfl' (Nat.le_refl _) (Nat.le_refl _) H locs ls st hR
    · split at h
      · cases h
      · rename_i i len a b ec
        obtain ⟨d1, d2, d3, d4, d5⟩ := hcode pc i len a b ec
        have next : ∀ {pc2 : Nat} {L2 S2 : List ai_V} {G2 : ai_G} {o : List ai_F} {r' : Nat → Int} {ad' : Nat → Nat} {H1 : Heap} {locs1 : List Loc} {ls1 : Array Slot} {st1 : List Value}, sg_run code hand bud cbud dflt kind callee stop n false pc2 L2 S2 G2 = some o → (∀ g ∈ o, g ∈ fs) → ai_ext G.1.1 r r' → ai_ext G.2.1.1 ad ad' → G.1.1 ≤ G2.1.1 → G.2.1.1 ≤ G2.2.1.1 → ai_Rel D tyc A s sa ws0 nL r' ad' L2 S2 G2 H1 locs1 ls1 st1 → W p l e R s m args below meth c H1 locs1 G2.2.2.1 G2.2.2.2 Q (F0 m pc2 ls1 st1) := fun {pc2 L2 S2 G2 o r' ad' H1 locs1 ls1 st1} e1 e2 x1 x2 x3 x4 hR1 =>
          ih false pc2 L2 S2 G2 o r' ad' H1 locs1 ls1 st1 e1 hR1 (fun f hf r2 ad2 y1 y2 y3 y4 H2 locs2 ls2 st2 hR2 => kk f (e2 f hf) r2 ad2 (x1.trans y1 x3) (x2.trans y2 x4) (Nat.le_trans x3 y3) (Nat.le_trans x4 y4) H2 locs2 ls2 st2 hR2)
        split at h
        · cases h
        · rename_i fs1 es
          refine ai_step_ok F hini d2 d3 d1 es hR (fun f hf => ?_)
          obtain ⟨o, e1, e2⟩ := sg_many_ok h f hf
          intro r' ad' x1 x2 x3 x4 H1 locs1 ls1 st1 hR1
          exact next e1 e2 x1 x2 x3 x4 hR1
        · rename_i mi aa S' pc' es
          obtain ⟨E, hh, cs, sl⟩ := G
          dsimp only at h
          cases eb : cbud mi with
          | mk bc bs =>
          rw [eb] at h
          dsimp only at h
          split at h
          · rename_i eb1 eb2
            have eb1 := Nat.le_of_ble_eq_true eb1
            have eb2 := Nat.le_of_ble_eq_true eb2
            split at h
            · cases h
            · rename_i co eco
              split at h
              · cases h
              · rename_i ecalm
                obtain ⟨hx, hb, hml, hts, hown, hSt0, hA, hbud, hcls, hroom0, hlocks⟩ := F
                obtain ⟨m1, m2, m3, m4⟩ := hrm mi
                rw [eb] at m3 m4
                have m3 : (rm mi).cells = bc := m3
                have m4 : (rm mi).slots = bs := m4
                obtain ⟨hmi, hpc, As, rest, hrest, hRun⟩ := ai_invoke_ok (e := e) (below := below) (y := mt mi) (rm := rm mi) ⟨hx, hb, hml, hts, hown, hSt0, hA, hbud, hcls, hroom0, hlocks⟩ hgood hnk (fun q q2 => by rw [q]; exact d5 q2) (hmt _ _ _ _ eco) ⟨m1, m2⟩ d1 es ecalm hR hPw (hcall _ _ _ _ eco) (by rw [m3, m4, ← hbud.1, ← hbud.2]; exact ⟨eb1, eb2⟩)
                subst hpc
                rw [m3, m4] at hRun
                obtain ⟨hWd, hS, hL, hSt⟩ := hR.wd
                refine ai_back_ok hRun hS (fun f hf x hx9 r' ad' x1 x2 x3 x4 H1 locs1 v hW1 hS1 hv => ?_) (fun f hf z hz r' ad' x1 x2 x3 x4 H1 locs1 q ce hW1 hS1 hq hcv hcl => ?_)
                · obtain ⟨o, e1, e2⟩ := sg_many_ok h f hf
                  obtain ⟨fx, E1, h9, c9, s9⟩ := f
                  have hx9 : fx = .inr x := hx9
                  subst hx9
                  dsimp only at e1
                  have hL1 := hL.mono x1 x2 x3 x4
                  have hr1 := hrest.mono x1 x2 x3 x4
                  have hW2 : ai_Wd D tyc A sa ws0 r' ad' (E1, h9, cs + bc, sl + bs) H1 := hW1
                  cases x with
                  | none =>
                    have hv : v = none := hv
                    subst hv
                    exact next (G2 := (E1, h9, cs + bc, sl + bs)) e1 e2 x1 x2 x3 x4 (hW2.rel hS1 hL1 hr1)
                  | some a =>
                    obtain ⟨w, rfl, hw⟩ := hv
                    exact next (G2 := (E1, h9, cs + bc, sl + bs)) e1 e2 x1 x2 x3 x4 (hW2.rel hS1 hL1 ⟨hw, hr1⟩)
                · obtain ⟨o, e1, e2⟩ := sg_many_ok h f hf
                  obtain ⟨fx, E1, h9, c9, s9⟩ := f
                  have hz : fx = .inl z := hz
                  subst hz
                  dsimp only at e1
                  have hL1 := hL.mono x1 x2 x3 x4
                  have hW2 : ai_Wd D tyc A sa ws0 r' ad' (E1, h9, cs + bc, sl + bs) H1 := hW1
                  cases eh : hand pc z with
                  | none =>
                    rw [eh] at e1
                    cases e1
                  | some kp =>
                    obtain ⟨k, pcn⟩ := kp
                    rw [eh] at e1
                    dsimp only at e1
                    rcases hhand pc z k pcn eh with ⟨z1, z2⟩ | ⟨hk, pre, x, suf, nm, t1, t2, t3, t4, t5, t6, t7⟩
                    · exfalso
                      cases n with
                      | zero => cases e1
                      | succ n =>
                        unfold sg_run at e1
                        rw [z1, z2] at e1
                        cases e1
                    · refine vx_catch (rest := rest) hown pre x suf t1 (fun w hw => (t2 w hw).imp (fun q => q) (fun ⟨q1, nm', q2, q3⟩ => ⟨q1, nm', hts _ q2, hSt0.2.2.2.2.2.2.2.2.2.1 _ q3⟩)) t3 t4 (hts _ t5) (va_Nw.use (ai_nk_tab (hnk _ t6)) (hSt0.2.2.2.2.2.2.1 _ t6)) hq hcv hcl ?_
                      have go : ∀ ls' : Array Slot, lv_has ls' nL ((k, Value.ref q) :: (ai_pairs ls L).filter (fun q => !(q.1 == k) && !(q.1 + 1 == k && q.2.category == 2))) → W p l e R s m args below meth c H1 locs1 (cs + bc) (sl + bs) Q (F0 m pcn ls' []) := fun ls' hl' =>
                        next (G2 := (E1, h9, cs + bc, sl + bs)) e1 e2 x1 x2 x3 x4 (hW2.rel hS1 (hL1.set' hk trivial hl') trivial)
                      rcases t7 with ⟨u1, rfl⟩ | ⟨j, u0, u1, rfl⟩
                      · exact lv_astore hx hb u1 (ai_pairs_has hL) hk rfl go
                      · exact lv_astore_n hx hb u1 u0 (ai_pairs_has hL) hk rfl go
          · cases h
        · cases h
end SG
