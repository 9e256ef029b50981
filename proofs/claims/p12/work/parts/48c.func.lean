/-! A FUNCTION'S CONTRACT out of a run that logs: its ends are one outcome -/
noncomputable def fc_P (R : Nat) (r0 : Nat → Int) (N : Nat) (fs : List (ai_F × List fn_L)) (Ψ : Nat → Int → Int) (v z : Int) : Prop := ∃ f ∈ fs, ∃ (x : ai_X) (r' : Nat → Int), f.1.2.2.1 = [.inl x] ∧ (∀ t, t < N → t ≠ R → r' t = r0 t) ∧ r' N = v ∧ x.1 < f.1.2.2.2.1.1 ∧ ai_gE r' f.1.2.2.2.1 ∧ (∀ e ∈ f.2, fn_m Ψ r' e) ∧ z = ai_vx r' x
noncomputable def fc_F (R : Nat) (r0 : Nat → Int) (N : Nat) (fs : List (ai_F × List fn_L)) (Ψ : Nat → Int → Int) (v : Int) : Int := @dite Int (∃ z, fc_P R r0 N fs Ψ v z) (Classical.propDecidable _) (fun h => Classical.choose h) (fun _ => -1)
theorem fc_F_or (R : Nat) (r0 : Nat → Int) (N : Nat) (fs : List (ai_F × List fn_L)) (Ψ : Nat → Int → Int) (v : Int) : fc_P R r0 N fs Ψ v (fc_F R r0 N fs Ψ v) ∨ fc_F R r0 N fs Ψ v = -1 := by
  unfold fc_F
  by_cases h : ∃ z, fc_P R r0 N fs Ψ v z
  · left
    rw [dif_pos h]
    exact Classical.choose_spec h
  · right
    rw [dif_neg h]
noncomputable def fc_it (f : ai_F × List fn_L) : dt_I := (f.1.2.2.2.1.2.2.reverse, f.2.reverse, 0, match f.1.2.2.1 with
  | [.inl x] => [x]
  | _ => [])
theorem fc_one {R : Nat} {r0 : Nat → Int} {N : Nat} {fs : List (ai_F × List fn_L)} {Ψ : Nat → Int → Int} {n : Nat} (h : dt R n (N + 1) (fs.map fc_it) = true) {v z z' : Int} (h1 : fc_P R r0 N fs Ψ v z) (h2 : fc_P R r0 N fs Ψ v z') : z = z' := by
  obtain ⟨f, hf, x, r1, a1, a2, a3, -, a4, a5, a6⟩ := h1
  obtain ⟨g, hg, y, r2, b1, b2, b3, -, b4, b5, b6⟩ := h2
  have hm : ∀ {f : ai_F × List fn_L} {r1 : Nat → Int}, ai_gE r1 f.1.2.2.2.1 → (∀ e ∈ f.2, fn_m Ψ r1 e) → dt_m Ψ r1 (fc_it f) := fun q1 q2 => ⟨fun d hd => (q1.2.2.2.2 d (List.mem_reverse.mp hd)).2.2.2, fun e he => q2 e (List.mem_reverse.mp he)⟩
  have := (dt_ok h (fc_it f) (List.mem_map.mpr ⟨f, hf, rfl⟩) (fc_it g) (List.mem_map.mpr ⟨g, hg, rfl⟩) r1 r2 (fun t ht ht2 => ?_) (hm a4 a5) (hm b4 b5)).2
  · unfold fc_it at this
    rw [a1, b1] at this
    have : [ai_vx r1 x] = [ai_vx r2 y] := this
    rw [a6, b6]
    exact (List.cons.inj this).1
  · by_cases e : t = N
    · rw [e, a3, b3]
    · rw [a2 t (by omega) ht2, b2 t (by omega) ht2]
theorem fc_F_eq {R : Nat} {r0 : Nat → Int} {N : Nat} {fs : List (ai_F × List fn_L)} {Ψ : Nat → Int → Int} {n : Nat} (h : dt R n (N + 1) (fs.map fc_it) = true) {v z : Int} (h1 : fc_P R r0 N fs Ψ v z) : fc_F R r0 N fs Ψ v = z := by
  have hx : ∃ z, fc_P R r0 N fs Ψ v z := ⟨z, h1⟩
  unfold fc_F
  rw [dif_pos hx]
  exact fc_one h (Classical.choose_spec hx) h1
theorem fc_F_cg {R : Nat} {r0 r1 : Nat → Int} {N : Nat} {fs : List (ai_F × List fn_L)} {Ψ Ψ' : Nat → Int → Int} (h : ∀ t, t < N → t ≠ R → r0 t = r1 t) (hΨ : Ψ = Ψ') : fc_F R r0 N fs Ψ = fc_F R r1 N fs Ψ' := by
  subst hΨ
  have e : ∀ v, fc_P R r0 N fs Ψ v = fc_P R r1 N fs Ψ v := fun v => by
    funext z
    unfold fc_P
    refine propext ⟨fun ⟨f, hf, x, r', a1, a2, a3⟩ => ⟨f, hf, x, r', a1, fun t h1 h2 => (a2 t h1 h2).trans (h t h1 h2), a3⟩, fun ⟨f, hf, x, r', a1, a2, a3⟩ => ⟨f, hf, x, r', a1, fun t h1 h2 => (a2 t h1 h2).trans (h t h1 h2).symm, a3⟩⟩
  funext v
  unfold fc_F
  rw [e v]
/-- an end at an ireturn of an int -/
noncomputable def fc_ir (mi pc : Nat) : Bool := match ls_code mi pc with
  | some (i, _, a, _) => (match i with
    | .ireturn => !(Nat.beq a 2)
    | _ => false)
  | none => false
theorem fc_ir_ok {mi pc : Nat} (h : fc_ir mi pc = true) : ∃ len a b, ls_code mi pc = some (.ireturn, len, a, b) ∧ a ≠ 2 := by
  unfold fc_ir at h
  split at h
  · rename_i i len a b e
    split at h
    · refine ⟨len, a, b, e, fun q => ?_⟩
      subst q
      cases h
    · cases h
  · cases h
noncomputable def fc_e (mi N : Nat) (h0 : ai_H) (rb : Int × Int) (f : ai_F × List fn_L) : Bool := match f.1.2.2.1 with
  | [.inl x] => fc_ir mi f.1.1 && (fn_heq f.1.2.2.2.2.1 h0 && (Nat.ble f.1.2.2.2.2.2.1 (ct_bud mi).1 && (Nat.ble f.1.2.2.2.2.2.2 (ct_bud mi).2 && (ai_le rb.1 (ai_iv f.1.2.2.2.1 x).1 && ai_le (ai_iv f.1.2.2.2.1 x).2 rb.2))))
  | _ => false
noncomputable def fc_aa (N : Nat) (tail : List Int) : List ai_V := .inr (.inr (some (some 264))) :: .inl (N, 0) :: tail.map (fun k => .inl (0, k))
noncomputable def fc_run (OT : List fn_O) (E0 : ai_E) (h0 : ai_H) (stop : List Nat) (L0 : List ai_V) (q : fn_O) : Option (List (ai_F × List fn_L)) := fn_run q.2.1 OT [] h0 stop 10000 false [] 0 L0 [] (sm_E E0 [q.2.2.1], h0, 0, 0)
noncomputable def fc_fs (OT : List fn_O) (E0 : ai_E) (h0 : ai_H) (stop : List Nat) (L0 : List ai_V) (q : fn_O) : List (ai_F × List fn_L) := (fc_run OT E0 h0 stop L0 q).getD []
noncomputable def fc_ck (OT : List fn_O) (E0 : ai_E) (h0 : ai_H) (stop : List Nat) (L0 : List ai_V) (q : fn_O) (R : Nat) (sp : ai_F × List fn_L → Bool) : Bool := match fc_run OT E0 h0 stop L0 q with
  | some fs => fs.all (fc_e q.2.1 E0.1 h0 q.2.2.2.1) && (dt R 10000 (E0.1 + 1) (fs.map fc_it) && fs.all sp)
  | none => false
theorem fc_ck_ok {OT : List fn_O} {E0 : ai_E} {h0 : ai_H} {stop : List Nat} {L0 : List ai_V} {q : fn_O} {R : Nat} {sp : ai_F × List fn_L → Bool} (h : fc_ck OT E0 h0 stop L0 q R sp = true) : fc_run OT E0 h0 stop L0 q = some (fc_fs OT E0 h0 stop L0 q) ∧ (fc_fs OT E0 h0 stop L0 q).all (fc_e q.2.1 E0.1 h0 q.2.2.2.1) = true ∧ dt R 10000 (E0.1 + 1) ((fc_fs OT E0 h0 stop L0 q).map fc_it) = true ∧ (fc_fs OT E0 h0 stop L0 q).all sp = true := by
  unfold fc_ck at h
  unfold fc_fs
  split at h
  · rename_i fs e
    simp only [Bool.and_eq_true] at h
    rw [e]
    exact ⟨rfl, h.1, h.2.1, h.2.2⟩
  · cases h
theorem fc_tail {r : Nat → Int} {ad : Nat → Nat} {N n : Nat} (h0 : r 0 = 0) (hN : 0 < N) : ∀ {l : List Int}, l.all (fun k => ai_le ai_lo32 k && ai_le k ai_hi32) = true → ai_gF r ad N n (l.map (fun k => .inl (0, k))) (l.map (fun k => .int (Int32.ofInt k)))
  | [], _ => trivial
  | k :: l, h => by
    rw [List.all_cons, Bool.and_eq_true, Bool.and_eq_true] at h
    obtain ⟨⟨h1, h2⟩, h3⟩ := h
    have h1 := ai_le_iff.mp h1
    have h2 := ai_le_iff.mp h2
    refine ⟨⟨hN, _, rfl, ?_⟩, fc_tail h0 hN h3⟩
    show (Int32.ofInt k).toInt = r 0 + k
    rw [h0, Int32.toInt_ofInt_of_le (by unfold ai_lo32 at h1; omega) (by unfold ai_hi32 at h2; omega)]
    omega
set_option maxHeartbeats 2000000 in
theorem fc_new {OT : List fn_O} {E0 : ai_E} {h0 : ai_H} {stop : List Nat} {L0 : List ai_V} {q : fn_O} {R : Nat} {sp : ai_F × List fn_L → Bool} {Ψ : Nat → Int → Int} (hpl : ls_plain q.2.1 = true) (hd : E0.2.2 = []) (hw0 : sm_wh E0.1 h0 = true) (h264 : 264 < h0.1) (htl : q.2.2.2.2.all (fun k => ai_le ai_lo32 k && ai_le k ai_hi32) = true) (hL0 : ai_pad (ct_mt q.2.1).2.2.1 (fc_aa E0.1 q.2.2.2.2) = some L0) (hck : fc_ck OT E0 h0 stop L0 q R sp = true)
    (n : Nat) {l : Launch} {D : va_G} {tyc : Nat → ClassId} {A : Nat → Prop} {sa : ai_B} {ws0 : va_W} {r0 : Nat → Int} {ad0 : Nat → Nat} (hE0 : ai_gE r0 E0) (hOT : ∀ o ∈ OT, ls_plain o.2.1 = true ∧ o.2.1 < 1000 ∧ 100 ≤ o.1 ∧ fc_Ct l D tyc A sa ws0 r0 ad0 E0 h0 (Ψ o.1) n o) :
    fc_Ct l D tyc A sa ws0 r0 ad0 E0 h0 (fc_F R r0 E0.1 (fc_fs OT E0 h0 stop L0 q) Ψ) (n + 1) q := by
  obtain ⟨hrun, hend, hdt, -⟩ := fc_ck_ok hck
  have hpl' := hpl
  unfold ls_plain at hpl'
  simp only [Bool.and_eq_true, Bool.not_eq_true'] at hpl'
  obtain ⟨p1, -, p3⟩ := hpl'
  obtain ⟨mok, htab⟩ := ls_known p1
  rw [p3] at htab
  intro H0 v hv1 hv2 hWd
  have hx : ai_ext E0.1 r0 (ai_upd r0 E0.1 v.toInt) := ai_upd_ext _ _ _
  have hat : ai_upd r0 E0.1 v.toInt E0.1 = v.toInt := ai_upd_at _ _ _
  have hE1 : ai_gE (ai_upd r0 E0.1 v.toInt) (sm_E E0 [q.2.2.1]) := by
    obtain ⟨N, lb, ds⟩ := E0
    have hd : ds = [] := hd
    subst hd
    exact hE0.push hv1 hv2 (by
      have := ai_i32 v
      unfold ai_lo32 ai_hi32 at this
      unfold ai_lo64 ai_hi64
      omega)
  have hr0 : ai_upd r0 E0.1 v.toInt 0 = 0 := hE1.1
  have hWd1 : ai_Wd D tyc A sa ws0 (ai_upd r0 E0.1 v.toInt) ad0 (sm_E E0 [q.2.2.1], h0, 0, 0) H0 := fn_trW hw0 hx ai_ext.rfl' (Nat.le_succ _) hE1 hWd
  have hA : ai_gF (ai_upd r0 E0.1 v.toInt) ad0 (sm_E E0 [q.2.2.1]).1 h0.1 (fc_aa E0.1 q.2.2.2.2) (fn_As ad0 v q.2.2.2.2) :=
    ⟨⟨h264, rfl⟩, ⟨Nat.lt_succ_self _, v, rfl, by show v.toInt = ai_upd r0 E0.1 v.toInt E0.1 + 0; rw [hat]; omega⟩, fc_tail hr0 (Nat.succ_pos _) htl⟩
  refine ls_met (n := n) hpl L0 hL0 hWd1 hA (fun p e s m below meth c ls F hret htb hheap hR => ?_)
  refine fn_ok (G := (sm_E E0 [q.2.2.1], h0, 0, 0)) (r0 := r0) (ad0 := ad0) (E0 := E0) (h0 := h0) (GT := []) hpl F hOT (fun q hq => by cases hq) hw0 hE0 h264 10000 false [] 0 L0 [] _ _ ad0 s.heap [] ls [] hrun hR hx ai_ext.rfl' (Nat.le_succ _) (Nat.le_refl _) (fun x hx => by cases hx) (fun f hf r' ad' x1 x2 x3 x4 H' locs' ls' st' hR' => ?_)
  have he := List.all_eq_true.mp hend f hf
  unfold fc_e at he
  split at he
  · rename_i x hS
    simp only [Bool.and_eq_true] at he
    obtain ⟨e1, e2, e3, e4, e5, e6⟩ := he
    obtain ⟨len, a, b, ec, ha⟩ := fc_ir_ok e1
    obtain ⟨d1, -, -, d4, -⟩ := htab _ _ _ _ _ ec
    obtain ⟨rfl, w1, w2⟩ := d4
    obtain ⟨hWd', hS', hL', hSt'⟩ := hR'.wd
    rw [hS] at hSt'
    obtain ⟨i, t, rfl, i1, i2, i3⟩ := hSt'.int
    have ht0 : t = [] := by
      cases t with
      | nil => rfl
      | cons w t => exact i3.elim
    subst ht0
    have hEf := hR'.env
    have hiv := ai_iv_ok hEf i1
    have e5 := ai_le_iff.mp e5
    have e6 := ai_le_iff.mp e6
    obtain ⟨hx0, hb, hml, hts, hown, hSt0, hA0, hbud, hcls, hroom, hlocks⟩ := F
    have c1 : f.1.2.2.2.2.2.1 ≤ (ct_bud q.2.1).1 := Nat.le_of_ble_eq_true e3
    have c2 : f.1.2.2.2.2.2.2 ≤ (ct_bud q.2.1).2 := Nat.le_of_ble_eq_true e4
    refine W.widen c1 c2 (vx_ret (W.iret hx0 hb (hret.trans (w2 ha)) (fun t ht _ => ?_) hS'.2.2 d1 hlocks))
    refine ⟨i, rfl, ?_, ⟨by rw [i2]; omega, by rw [i2]; omega⟩, ?_, hS'.F ht⟩
    · rw [i2]
      have x1 : ai_ext (E0.1 + 1) (ai_upd r0 E0.1 v.toInt) r' := x1
      exact (fc_F_eq hdt ⟨f, hf, x, r', hS, fun t ht _ => hx.trans x1 (Nat.le_succ _) t ht, by rw [x1 _ (Nat.lt_succ_self _), hat], i1, hEf, fun e he => (x4 e he).2, rfl⟩).symm
    · rw [ht]
      have hWd' : ai_Wd D tyc A sa ws0 r' ad' (f.1.2.2.2.1, f.1.2.2.2.2.1, f.1.2.2.2.2.2.1, f.1.2.2.2.2.2.2) H' := hWd'
      rw [fn_heq_ok e2] at hWd'
      have x1 : ai_ext (E0.1 + 1) (ai_upd r0 E0.1 v.toInt) r' := x1
      exact fn_trW hw0 (fn_rev (hx.trans x1 (Nat.le_succ _))) (fn_rev x2) (Nat.le_refl _) hE0 hWd'
  · cases he
/-! PINS: every place of an array by a number of its own -/
noncomputable def pn_out (j : Nat) (l : List (ai_X × ai_X)) : Bool := l.all (fun q => Nat.beq q.1.1 0 && !(ai_eq q.1.2 (.ofNat j)))
theorem pn_out_ok {r : Nat → Int} (h0 : r 0 = 0) {lo hi : Int} {j : Nat} {v : Int} : ∀ {l : List (ai_X × ai_X)}, pn_out j l = true → ai_ov r lo hi l j v → lo ≤ v ∧ v ≤ hi
  | [], _, g => g
  | (i, x) :: l, h, g => by
    unfold pn_out at h
    rw [List.all_cons, Bool.and_eq_true, Bool.and_eq_true] at h
    obtain ⟨⟨h1, h2⟩, h3⟩ := h
    refine pn_out_ok h0 h3 (g.2 (fun q => ?_))
    have h1 : i.1 = 0 := Nat.eq_of_beq_eq_true h1
    have q : r i.1 + i.2 = (j : Int) := q
    rw [h1, h0, Int.zero_add] at q
    have : ai_eq i.2 (.ofNat j) = true := ai_eq_iff.mpr q
    have h2 : (!(ai_eq i.2 (.ofNat j))) = true := h2
    rw [this] at h2
    cases h2
noncomputable def pn_1 (G : ai_G) (q : Nat × Nat) : ai_G := match ai_cell G.2.1 q.1 with
  | some (.inr (.inl (ty, n, lo, hi, l))) => ((ai_new G.1 (lo, hi)).2, (G.2.1.1, ai_tset 9 G.2.1.2 q.1 (some (.inr (.inl (ty, n, lo, hi, ((0, .ofNat q.2), (G.1.1, 0)) :: l))))), G.2.2)
  | _ => G
noncomputable def pn_c (G : ai_G) (q : Nat × Nat) : Bool := match ai_cell G.2.1 q.1 with
  | some (.inr (.inl (ty, n, lo, hi, l))) => !(Nat.beq ty 1) && (Nat.blt q.2 n && (Nat.ble 16 q.1 && (Nat.blt q.1 G.2.1.1 && pn_out q.2 l)))
  | _ => false
theorem pn_1_ok {s : State} {D : va_G} {tyc : Nat → ClassId} {A : Nat → Prop} {sa : ai_B} {ws0 : va_W} {nL : Nat} {r : Nat → Int} {ad : Nat → Nat} {L S : List ai_V} {G : ai_G} {H : Heap} {locs : List Loc} {ls : Array Slot} {st : List Value} {q : Nat × Nat} (hR : ai_Rel D tyc A s sa ws0 nL r ad L S G H locs ls st) (hc : pn_c G q = true) :
    ∃ r', ai_ext G.1.1 r r' ∧ ai_Rel D tyc A s sa ws0 nL r' ad L S (pn_1 G q) H locs ls st := by
  unfold pn_c at hc
  unfold pn_1
  split at hc
  · rename_i ty n lo hi l ecell
    simp only [Bool.and_eq_true] at hc
    obtain ⟨c1, c2, c3, c4, c5⟩ := hc
    have c2 : q.2 < n := Nat.le_of_ble_eq_true c2
    have c3 := Nat.le_of_ble_eq_true c3
    have c4 : q.1 < G.2.1.1 := Nat.le_of_ble_eq_true c4
    obtain ⟨ws, hP, hD, hS, hE, hH, hO, hsa, hL, hSt⟩ := hR
    have hn512 := hH.1.2.1
    obtain ⟨y, hw, hg⟩ := hH.at c3 c4 ecell
    rcases hg with ⟨e0, -⟩ | ⟨hty, f, rfl, hK⟩
    · subst e0
      cases c1
    · have hb : lo ≤ (f q.2).toInt ∧ (f q.2).toInt ≤ hi := pn_out_ok hE.1 c5 (hK.2 q.2 c2)
      cases en : ai_new G.1 (lo, hi) with
      | mk z E' =>
        obtain ⟨r', g1, g2, g3, g4, g5⟩ := ai_new_ok hE (b := (lo, hi)) hb (ai_small32 (ai_i32 _)) en
        have ez : z = (G.1.1, 0) ∧ E'.1 = G.1.1 + 1 := by
          obtain ⟨⟨N, lb, ds⟩, G2⟩ := G
          cases en
          exact ⟨rfl, rfl⟩
        obtain ⟨rfl, hE1⟩ := ez
        have e0 : r' G.1.1 = (f q.2).toInt := by
          have : r' G.1.1 + 0 = (f q.2).toInt := g5
          omega
        have z0 : r' 0 = 0 := g3.1
        refine ⟨r', g1, ?_⟩
        refine ⟨ws, hP, hD, hS, g3, ⟨hH.1, hH.2.1, fun k hk d hd => ?_, fun k hk hd => ?_⟩, fun k hk d hd => ?_, hsa, hL.mono g1 ai_ext.rfl' g2 (Nat.le_refl _), hSt.mono g1 ai_ext.rfl' g2 (Nat.le_refl _)⟩
        · have hk : k + 16 < G.2.1.1 := hk
          have hd : ai_cell (G.2.1.1, ai_tset 9 G.2.1.2 q.1 (some (.inr (.inl (ty, n, lo, hi, ((0, .ofNat q.2), (G.1.1, 0)) :: l))))) (k + 16) = some d := hd
          rw [hg_cell (by omega) (by omega)] at hd
          split at hd
          · rename_i ek
            cases hd
            refine ⟨.inl (tyc ty, n, .inl f), ?_, Or.inr ⟨hty, f, rfl, fun z hz => ?_, fun i hi' => ⟨fun hv => ?_, fun _ => ?_⟩⟩⟩
            · rw [show k = q.1 - 16 by omega, hw, show q.1 - 16 + 16 = q.1 by omega]
            · rcases List.mem_cons.mp hz with rfl | hz
              · exact ⟨by show 0 < E'.1; omega, by show G.1.1 < E'.1; omega⟩
              · have := hK.1 z hz
                exact ⟨by show z.1.1 < E'.1; omega, by show z.2.1 < E'.1; omega⟩
            · have hv : r' 0 + (q.2 : Int) = (i : Int) := hv
              have : i = q.2 := by omega
              subst this
              show (f q.2).toInt = r' G.1.1 + 0
              omega
            · exact ai_ov_ext g1 hK.1 (hK.2 i hi')
          · obtain ⟨y, h1, h2⟩ := hH.2.2.1 k hk d hd
            exact ⟨y, h1, h2.mono g1 ai_ext.rfl' g2 (Nat.le_refl _)⟩
        · have hk : k + 16 < G.2.1.1 := hk
          have hd : ai_cell (G.2.1.1, ai_tset 9 G.2.1.2 q.1 (some (.inr (.inl (ty, n, lo, hi, ((0, .ofNat q.2), (G.1.1, 0)) :: l))))) (k + 16) = none := hd
          rw [hg_cell (by omega) (by omega)] at hd
          split at hd
          · cases hd
          · exact hH.2.2.2 k hk hd
        · have hd : ai_cell (G.2.1.1, ai_tset 9 G.2.1.2 q.1 (some (.inr (.inl (ty, n, lo, hi, ((0, .ofNat q.2), (G.1.1, 0)) :: l))))) k = some d := hd
          rw [hg_cell (by omega) (by omega)] at hd
          split at hd
          · omega
          · obtain ⟨z, hz, lo', hi', l', h1, h2, h5⟩ := hO k hk d hd
            exact ⟨z, hz, lo', hi', l', h1, h2, h5.mono g1 g2⟩
  · cases hc
noncomputable def pn_G : List (Nat × Nat) → ai_G → ai_G
  | [], G => G
  | q :: l, G => pn_G l (pn_1 G q)
noncomputable def pn_k : List (Nat × Nat) → ai_G → Bool
  | [], _ => true
  | q :: l, G => pn_c G q && (Nat.ble G.1.1 (pn_1 G q).1.1 && pn_k l (pn_1 G q))
theorem pn_ok {s : State} {D : va_G} {tyc : Nat → ClassId} {A : Nat → Prop} {sa : ai_B} {ws0 : va_W} {nL : Nat} {ad : Nat → Nat} {L S : List ai_V} {H : Heap} {locs : List Loc} {ls : Array Slot} {st : List Value} : ∀ {l : List (Nat × Nat)} {r : Nat → Int} {G : ai_G}, ai_Rel D tyc A s sa ws0 nL r ad L S G H locs ls st → pn_k l G = true → ∃ r', ai_ext G.1.1 r r' ∧ ai_Rel D tyc A s sa ws0 nL r' ad L S (pn_G l G) H locs ls st
  | [], r, G, hR, _ => ⟨r, ai_ext.rfl', hR⟩
  | q :: l, r, G, hR, h => by
    unfold pn_k at h
    rw [Bool.and_eq_true, Bool.and_eq_true] at h
    obtain ⟨h1, h2, h3⟩ := h
    obtain ⟨r1, a1, a2⟩ := pn_1_ok hR h1
    obtain ⟨r2, b1, b2⟩ := pn_ok a2 h3
    exact ⟨r2, a1.trans b1 (Nat.le_of_ble_eq_true h2), b2⟩
noncomputable def pn_all (l : List (Nat × Nat)) : List (Nat × Nat) := (l.map (fun q => (List.range q.2).map (fun j => (q.1, j)))).flatten
