/-! BY HAND: a part of a sheet copied: Sheets.lay, LM.copy, the law's helper; LMModel.copy -/
noncomputable def cy_gh (x : Nat) : Bool := (Nat.ble 54 x && Nat.ble x 65) || (Nat.beq x 267 || Nat.beq x 268)
noncomputable def cy_sm (ws ws' : va_W) : Prop := ∀ x, cy_gh x = false → ws'[x]? = ws[x]?
noncomputable def cy_W (tyc : Nat → ClassId) (ws : va_W) (rw : Nat → Nat → Int32) (rg bf : Nat → Int32) : Prop := (∀ s, s < 12 → hg_ia tyc ws (70 + s) 12 (rw s)) ∧ hg_ia tyc ws 283 144 rg ∧ hg_ia tyc ws 284 12 bf
theorem cy_sm.rf {ws : va_W} : cy_sm ws ws := fun _ _ => rfl
theorem cy_sm.tr {a b c : va_W} (h : cy_sm a b) (g : cy_sm b c) : cy_sm a c := fun x hx => (g x hx).trans (h x hx)
theorem cy_pw {tyc : Nat → ClassId} {ws ws' : va_W} (h : ai_Pw tyc ws) (g : cy_sm ws ws') : ai_Pw tyc ws' := h.same (g 270 rfl) (g 272 rfl) (g 273 rfl) (g 274 rfl) (fun p hp => g p.1 (by
  have w : ai_xs.all (fun p => !(cy_gh p.1)) = true := by decide
  have e := List.all_eq_true.mp w p hp
  rw [Bool.not_eq_true'] at e
  exact e))
theorem cy_ia {tyc : Nat → ClassId} {ws ws' : va_W} {q n : Nat} {f : Nat → Int32} (h : hg_ia tyc ws q n f) (e : ws'[q - 16]? = ws[q - 16]?) : hg_ia tyc ws' q n f := by
  obtain ⟨a, h⟩ := h
  exact ⟨a, e.trans h⟩
theorem cy_gh_r {s : Nat} (h : s < 12) : cy_gh (70 + s - 16) = true := by
  unfold cy_gh
  rw [Nat.ble_eq_true_of_le (show 54 ≤ 70 + s - 16 by omega), Nat.ble_eq_true_of_le (show 70 + s - 16 ≤ 65 by omega)]
  rfl
noncomputable def cy_val (r : Nat → Int) (sf st sof sot a o n : ai_X) : Nat := cy_code (ai_vx r sf) (ai_vx r st) (ai_vx r sof) (ai_vx r sot) (ai_vx r a) (ai_vx r o) (ai_vx r n)
noncomputable def cy_rw (rw : Nat → Nat → Int32) (f t : Nat) (a o n : Int) (c : Nat) : Nat → Nat → Int32 := fun s => if c = 0 ∧ s = t then va_cpy (rw f) (rw t) a.toNat o.toNat n.toNat else rw s
noncomputable def cy_rg (rg : Nat → Int32) (f t : Nat) (a o n : Int) (c : Nat) : Nat → Int32 := if c = 0 then va_cpy rg rg (12 * f + a.toNat) (12 * t + o.toNat) n.toNat else rg
theorem cy_rw_ne {rw : Nat → Nat → Int32} {f t : Nat} {a o n : Int} {c : Nat} (h : c ≠ 0) : cy_rw rw f t a o n c = rw := funext (fun _ => if_neg (fun q => h q.1))
theorem cy_rg_ne {rg : Nat → Int32} {f t : Nat} {a o n : Int} {c : Nat} (h : c ≠ 0) : cy_rg rg f t a o n c = rg := if_neg h
theorem cy_code0 {sf st sof sot a o n : Int} (h : cy_code sf st sof sot a o n = 0) : (0 ≤ a ∧ 0 ≤ n ∧ n ≤ sf ∧ a ≤ sf - n) ∧ (0 ≤ o ∧ 0 ≤ n ∧ n ≤ st ∧ o ≤ st - n) := by
  unfold cy_code at h
  split at h
  · cases h
  · split at h
    · cases h
    · split at h
      · rename_i g
        exact ⟨of_decide_eq_true g.1, of_decide_eq_true g.2⟩
      · cases h
noncomputable def cy_c0 (G : ai_G) : ai_G := (G.1, G.2.1, 0, 0)
noncomputable def cy_z (g : ai_F) : Bool := Nat.beq g.2.2.2.2.2.1 0 && Nat.beq g.2.2.2.2.2.2 0
noncomputable def cy_top (g : ai_F) (c : Nat) : Bool := match g.2.2.1 with
  | [.inl x] => Nat.beq x.1 0 && ai_eq x.2 (.ofNat c)
  | _ => false
theorem cy_top_ok {g : ai_F} {c : Nat} (h : cy_top g c = true) : g.2.2.1 = [.inl (0, (c : Int))] := by
  unfold cy_top at h
  split at h
  · rename_i x e
    rw [Bool.and_eq_true] at h
    have h1 := Nat.eq_of_beq_eq_true h.1
    have h2 := ai_eq_iff.mp h.2
    obtain ⟨t, k⟩ := x
    have h1 : t = 0 := h1
    have h2 : k = (c : Int) := h2
    subst h1 h2
    exact e
  · cases h
noncomputable def cy_L (mi : Nat) (aa : List ai_V) : List ai_V := (ai_pad (ct_mt mi).2.2.1 aa).getD []
noncomputable def cy_pd (mi : Nat) (aa : List ai_V) : Bool := (ai_pad (ct_mt mi).2.2.1 aa).isSome
theorem cy_pd_ok {mi : Nat} {aa : List ai_V} (h : cy_pd mi aa = true) : ai_pad (ct_mt mi).2.2.1 aa = some (cy_L mi aa) := by
  unfold cy_pd at h
  unfold cy_L
  cases e : ai_pad (ct_mt mi).2.2.1 aa with
  | none => rw [e] at h; cases h
  | some L => rfl
/-- a call of an object's method: what stands on the stack -/
noncomputable def cy_vk (mi pc mj : Nat) (h : ai_H) (S aa S' : List ai_V) : Bool := match ls_code mi pc with
  | some (i, len, a, b) => Nat.beq (fn_knd i).1 3 && (Nat.beq a mj && (Nat.beq len 3 && (match ai_vcall mj (Nat.mod b 64) (Nat.div b 64) (pc + 3) S h with
    | some (.inr (.inl (m', aa', S2, p'))) => Nat.beq m' mj && (decide (aa' = aa) && (decide (S2 = S') && Nat.beq p' (pc + 3)))
    | _ => false)))
  | none => false
theorem cy_vk_ok {mi pc mj : Nat} {h : ai_H} {S aa S' : List ai_V} (q : cy_vk mi pc mj h S aa S' = true) : ∃ idx b, ls_code mi pc = some (.invokevirtual idx, 3, mj, b) ∧ ai_vcall mj (Nat.mod b 64) (Nat.div b 64) (pc + 3) S h = some (.inr (.inl (mj, aa, S', pc + 3))) := by
  unfold cy_vk at q
  split at q
  · rename_i i len a b ec
    simp only [Bool.and_eq_true] at q
    obtain ⟨h1, h2, h3, h4⟩ := q
    obtain ⟨idx, hi⟩ := fn_knd3 (Nat.eq_of_beq_eq_true h1)
    have h2 := Nat.eq_of_beq_eq_true h2
    have h3 := Nat.eq_of_beq_eq_true h3
    subst hi h2 h3
    split at h4
    · rename_i m' aa' S2 p' ev
      simp only [Bool.and_eq_true, decide_eq_true_eq] at h4
      obtain ⟨k1, k2, k3, k4⟩ := h4
      have k1 := Nat.eq_of_beq_eq_true k1
      have k4 := Nat.eq_of_beq_eq_true k4
      subst k1 k2 k3 k4
      exact ⟨idx, b, ec, ev⟩
    · cases h4
  · cases q
section CYH
variable {p : Program} {l : Launch} {e : Env} {s : State} {m : MethodId} {args : Array Value} {below : List Frame} {meth : Method} {c : Code} {Q : State → Prop}
variable {D : va_G} {tyc : Nat → ClassId} {A : Nat → Prop} {sa : ai_B} {ws : va_W} {mi n : Nat}
variable {pc mj b : Nat} {idx : Nat} {L S S' : List ai_V} {aa : List ai_V} {G : ai_G} {r : Nat → Int} {ad : Nat → Nat} {H : Heap} {locs : List Loc} {ls : Array Slot} {st : List Value}
theorem lh_callv {Qc : Array Value → State → Outcome → State → Prop} (hpl : lh_plain mi = true) (hplj : lh_plain mj = true) (hmj : mj < 1000) (F : ls_Fr p (lt_rm (n + 1) mi) s m args meth c D tyc A sa mi) (hcode : ls_code mi pc = some (.invokevirtual idx, 3, mj, b))
    (hst : ai_vcall mj (Nat.mod b 64) (Nat.div b 64) (pc + 3) S G.2.1 = some (.inr (.inl (mj, aa, S', pc + 3)))) (hR : ai_Rel D tyc A s sa ws (ct_mt mi).2.2.1 r ad L S G H locs ls st) (hroom : G.2.2.1 + (lt_rm n mj).cells ≤ (lt_rm (n + 1) mi).cells ∧ G.2.2.2 + (lt_rm n mj).slots ≤ (lt_rm (n + 1) mi).slots)
    (hMet : ∀ As : List Value, ai_gF r ad G.1.1 G.2.1.1 aa As → ai_Wd D tyc A sa ws r ad (G.1, G.2.1, 0, 0) H → vx_Met l (ct_mt mj).1 (ai_cw (ct_mt mj) :: ft_W) (lt_rm n mj) (fun a U => a = As.toArray ∧ U.heap = H ∧ ai_St D tyc A sa ct_strs ft_N U ∧ ∀ q, H.size ≤ q → A q) Qc (fun _ _ _ => False) (lt_rm n mj).cells (lt_rm n mj).slots A)
    (k : ∀ (a : Array Value) (st0 t : State) (v : Option Value) (rest : List Value) (locs1 : List Loc), st0.heap = H → Qc a st0 (.returned v) t → ai_gF r ad G.1.1 G.2.1.1 S' rest → (va_F A st0 t → va_S A s.heap t.heap locs1) →
      W p l e (lt_rm (n + 1) mi) s m args below meth c t.heap locs1 (G.2.2.1 + (lt_rm n mj).cells) (G.2.2.2 + (lt_rm n mj).slots) Q (F0 m (pc + 3) ls (v.toList ++ rest))) :
    W p l e (lt_rm (n + 1) mi) s m args below meth c H locs G.2.2.1 G.2.2.2 Q (F0 m pc ls st) := by
  unfold lh_plain at hpl hplj
  simp only [Bool.and_eq_true] at hpl hplj
  obtain ⟨-, htab⟩ := ls_known hpl.1
  obtain ⟨mok, -⟩ := ls_known hplj.1
  obtain ⟨d1, -, -, -, d5⟩ := htab pc _ _ _ _ hcode
  exact hg_callv0 F (fun w hw => (List.mem_filter.mp hw).2) (fun w hw => (List.mem_filter.mp hw).2) (d5 hmj) mok ⟨by show n + 0 + 8 + 1 ≤ n + 1 + 0 + 8; omega, by show 64 * (n + 0) + 400 + 64 ≤ 64 * (n + 1 + 0) + 400; omega⟩ d1 hst hR hroom hMet k
/-- an end with an int that is on the stack -/
theorem cy_iret {i : Int32} {cs sl : Nat} {Qc : Array Value → State → Outcome → State → Prop} {XC : String → State → State → Prop} (F : ls_Fr p (lt_rm (n + 1) mi) s m args meth c D tyc A sa mi) (hpl : lh_plain mi = true) (hret : meth.sig.returnType = (ct_mt mi).2.2.2.1) (hir : fc_ir mi pc = true) (hS : va_S A s.heap H locs) (hcs : cs ≤ (lt_rm (n + 1) mi).cells ∧ sl ≤ (lt_rm (n + 1) mi).slots)
    (hQ : ∀ t : State, t.heap = H → va_F A s t → Qc args s (.returned (some (.int i))) t) :
    W p l e (lt_rm (n + 1) mi) s m args below meth c H locs cs sl (vx_MQ below Qc XC args s (lt_rm (n + 1) mi).cells (lt_rm (n + 1) mi).slots A) (F0 m pc ls [.int i]) := by
  unfold lh_plain at hpl
  simp only [Bool.and_eq_true, Bool.not_eq_true'] at hpl
  obtain ⟨p1, p3⟩ := hpl
  obtain ⟨mok, htab⟩ := ls_known p1
  rw [p3] at htab
  obtain ⟨len, a, b, ec, ha⟩ := fc_ir_ok hir
  obtain ⟨d1, -, -, d4, -⟩ := htab _ _ _ _ _ ec
  obtain ⟨rfl, w1, w2⟩ := d4
  obtain ⟨hx, hb, hml, hts, hown, hSt0, hA, hbud, hcls, hroom, hlocks⟩ := F
  exact W.widen hcs.1 hcs.2 (vx_ret (W.iret hx hb (hret.trans (w2 ha)) (fun t ht _ => hQ t ht (hS.F ht)) hS.2.2 d1 hlocks))
/-- the stack has one number that is known -/
theorem cy_one {k : Int} {N n0 : Nat} (h0 : r 0 = 0) (h : ai_gF r ad N n0 [.inl (0, k)] st) : ∃ i : Int32, st = [.int i] ∧ i.toInt = k := by
  obtain ⟨i, t, rfl, -, i2, i3⟩ := h.int
  have : t = [] := by
    cases t with
    | nil => rfl
    | cons _ _ => exact i3.elim
  subst this
  have i2 : i.toInt = r 0 + k := i2
  exact ⟨i, rfl, by rw [i2, h0, Int.zero_add]⟩
end CYH
noncomputable def cy_Q (D : va_G) (tyc : Nat → ClassId) (A : Nat → Prop) (sa : ai_B) (ws : va_W) (rw : Nat → Nat → Int32) (rg bf : Nat → Int32) (r : Nat → Int) (ad : Nat → Nat) (G : ai_G) (f t : Nat) (a o n : Int) (c : Nat) : Array Value → State → Outcome → State → Prop :=
  fun _ s u T => ∃ (i : Int32) (ws' : va_W), u = .returned (some (.int i)) ∧ i.toInt = (c : Int) ∧ cy_sm ws ws' ∧ cy_W tyc ws' (cy_rw rw f t a o n c) rg bf ∧ ai_Wd D tyc A sa ws' r ad (cy_c0 G) T.heap ∧ va_F A s T
/-- back to the numbers of before -/
theorem cy_back {D : va_G} {tyc : Nat → ClassId} {A : Nat → Prop} {sa : ai_B} {ws : va_W} {r r' : Nat → Int} {ad ad' : Nat → Nat} {E E' : ai_E} {h h' : ai_H} {H : Heap} {c1 s1 : Nat} (hw : sm_wh E.1 h = true) (hh : h' = h) (hE : ai_gE r E) (x1 : ai_ext E.1 r r') (x2 : ai_ext h.1 ad ad') (q : ai_Wd D tyc A sa ws r' ad' (E', h', c1, s1) H) : ai_Wd D tyc A sa ws r ad (E, h, 0, 0) H := by
  subst hh
  exact fn_trW hw (fn_rev x1) (fn_rev x2) (Nat.le_refl _) hE q
theorem ai_Wd.env {D : va_G} {tyc : Nat → ClassId} {A : Nat → Prop} {sa : ai_B} {ws : va_W} {r : Nat → Int} {ad : Nat → Nat} {G : ai_G} {H : Heap} (h : ai_Wd D tyc A sa ws r ad G H) : ai_gE r G.1 := by
  obtain ⟨ws2, -, -, q, -⟩ := h
  exact q
theorem cy_six_ok {E : ai_E} {sf st sof sot a o n : ai_X} (h : cy_six E sf st sof sot a o n = true) : sf.1 < E.1 ∧ st.1 < E.1 ∧ sof.1 < E.1 ∧ sot.1 < E.1 ∧ a.1 < E.1 ∧ o.1 < E.1 ∧ n.1 < E.1 := by
  unfold cy_six at h
  simp only [Bool.and_eq_true] at h
  obtain ⟨l1, l2, l3, l4, l5, l6, l7⟩ := h
  exact ⟨Nat.le_of_ble_eq_true l1, Nat.le_of_ble_eq_true l2, Nat.le_of_ble_eq_true l3, Nat.le_of_ble_eq_true l4, Nat.le_of_ble_eq_true l5, Nat.le_of_ble_eq_true l6, Nat.le_of_ble_eq_true l7⟩
theorem cy_val_x {r r' : Nat → Int} {E : ai_E} {sf st sof sot a o n : ai_X} (h : cy_six E sf st sof sot a o n = true) (x : ai_ext E.1 r r') : cy_val r' sf st sof sot a o n = cy_val r sf st sof sot a o n := by
  obtain ⟨l1, l2, l3, l4, l5, l6, l7⟩ := cy_six_ok h
  unfold cy_val
  rw [x.vx l1, x.vx l2, x.vx l3, x.vx l4, x.vx l5, x.vx l6, x.vx l7]
/-! Sheets.lay -/
theorem cy_pl116 : lh_plain 116 = true := by decide +kernel
theorem cy_ir116 : fc_ir 116 37 = true ∧ fc_ir 116 54 = true ∧ fc_ir 116 79 = true ∧ fc_ir 116 101 = true ∧ cy_acp 116 97 = true := by decide +kernel
noncomputable def cy_a1 (f t : Nat) (a o n : ai_X) : List ai_V := [.inr (.inr (some (some 68))), .inl (0, .ofNat f), .inl a, .inl (0, .ofNat t), .inl o, .inl n]
noncomputable def cy_e0 (G : ai_G) (g : ai_F) : Bool := Nat.beq g.1 101 && (cy_top g 0 && (hy_heq g.2.2.2.2.1 G.2.1 && cy_z g))
noncomputable def cy_e1 (G : ai_G) (f t : Nat) (sf st sof sot a o n : ai_X) (g : ai_F) : Bool := (hy_heq g.2.2.2.2.1 G.2.1 && cy_z g) && ((Nat.beq g.1 37 && (cy_top g 1 && cy_end g.2.2.2.1 sf st sof sot a o n 1)) || ((Nat.beq g.1 54 && (cy_top g 2 && cy_end g.2.2.2.1 sf st sof sot a o n 2)) || ((Nat.beq g.1 79 && (cy_top g 3 && cy_end g.2.2.2.1 sf st sof sot a o n 3)) || (Nat.beq g.1 97 && (decide (g.2.2.1 = [.inl n, .inl o, .inr (.inr (some (some (70 + t)))), .inl a, .inr (.inr (some (some (70 + f))))]) && (cy_end g.2.2.2.1 sf st sof sot a o n 0 && ((cy_hi g.2.2.2.1 sf 12 && cy_hi g.2.2.2.1 st 12) && lz_chk [] 116 [101] false 100 g.2.1 [] (cy_c0 g.2.2.2) (cy_e0 G))))))))
noncomputable def cy_ck1 (G : ai_G) (f t : Nat) (sf st sof sot a o n : ai_X) : Bool := (xs_wh G.1.1 G.2.1 && cy_six G.1 sf st sof sot a o n) && (((ai_cell G.2.1 (70 + f)).isNone && (ai_cell G.2.1 (70 + t)).isNone) && (cy_pd 116 (cy_a1 f t a o n) && lz_chk [] 116 [37, 54, 79, 97] false 0 (cy_L 116 (cy_a1 f t a o n)) [] (cy_c0 G) (cy_e1 G f t sf st sof sot a o n)))
theorem cy_z_ok {g : ai_F} (h : cy_z g = true) : g.2.2.2.2.2.1 = 0 ∧ g.2.2.2.2.2.2 = 0 := by
  unfold cy_z at h
  rw [Bool.and_eq_true] at h
  exact ⟨Nat.eq_of_beq_eq_true h.1, Nat.eq_of_beq_eq_true h.2⟩
set_option maxHeartbeats 2000000 in
theorem cy_lay {n : Nat} {l : Launch} {D : va_G} {tyc : Nat → ClassId} {A : Nat → Prop} {sa : ai_B} {ws : va_W} {rw : Nat → Nat → Int32} {rg bf : Nat → Int32} {r : Nat → Int} {ad : Nat → Nat} {H0 : Heap} {As : List Value} {G : ai_G} {f t : Nat} {sf st sof sot a o k : ai_X}
    (hn : 4 ≤ n) (hl : l.stackTraces = false) (hPw : ai_Pw tyc ws) (hf : f < 12) (ht : t < 12) (hck : cy_ck1 G f t sf st sof sot a o k = true) (hW : cy_W tyc ws rw rg bf) (hWd : ai_Wd D tyc A sa ws r ad (cy_c0 G) H0) (hA : ai_gF r ad G.1.1 G.2.1.1 (cy_a1 f t a o k) As) :
    vx_Met l (ct_mt 116).1 (ai_cw (ct_mt 116) :: ft_W) (lt_rm (n + 1) 116) (fun a U => a = As.toArray ∧ U.heap = H0 ∧ ai_St D tyc A sa ct_strs ft_N U ∧ ∀ q, H0.size ≤ q → A q) (cy_Q D tyc A sa ws rw rg bf r ad G f t (ai_vx r a) (ai_vx r o) (ai_vx r k) (cy_val r sf st sof sot a o k)) (fun _ _ _ => False) (lt_rm (n + 1) 116).cells (lt_rm (n + 1) 116).slots A := by
  unfold cy_ck1 at hck
  simp only [Bool.and_eq_true] at hck
  obtain ⟨⟨hw, h6⟩, ⟨hcf, hct⟩, hpd, hseg⟩ := hck
  have hw := (xs_wh_eq (N := G.1.1) (h := G.2.1)).symm.trans hw
  have hcf := Option.isNone_iff_eq_none.mp hcf
  have hct := Option.isNone_iff_eq_none.mp hct
  obtain ⟨i1, i2, i3, i4, hacp⟩ := cy_ir116
  have hE : ai_gE r G.1 := hWd.env
  refine lh_met cy_pl116 _ (cy_pd_ok hpd) hWd hA (fun p e s m below meth c ls F hret hH hR => ?_)
  refine lh_ok (G := cy_c0 G) (k0 := 0) (T := []) cy_pl116 F hl trivial (by omega) hPw hseg hR (fun g hg r' ad' x1 x2 x3 x4 H' locs' ls' st' hR' => ?_)
  have x1 : ai_ext G.1.1 r r' := x1
  have x2 : ai_ext G.2.1.1 ad ad' := x2
  unfold cy_e1 at hg
  simp only [Bool.and_eq_true, Bool.or_eq_true, decide_eq_true_eq] at hg
  obtain ⟨⟨h1, h2⟩, h4⟩ := hg
  have hh := hy_heq_ok h1
  obtain ⟨z1, z2⟩ := cy_z_ok h2
  have hE' := hR'.env
  obtain ⟨hWd', hS', -, -⟩ := hR'.wd
  have fail : ∀ c0 : Nat, c0 ≠ 0 → fc_ir 116 g.1 = true → cy_top g c0 = true → cy_end g.2.2.2.1 sf st sof sot a o k c0 = true → W p l e (lt_rm (n + 1) 116) s m As.toArray below meth c H' locs' g.2.2.2.2.2.1 g.2.2.2.2.2.2 (vx_MQ below (cy_Q D tyc A sa ws rw rg bf r ad G f t (ai_vx r a) (ai_vx r o) (ai_vx r k) (cy_val r sf st sof sot a o k)) (fun _ _ _ => False) As.toArray s (lt_rm (n + 1) 116).cells (lt_rm (n + 1) 116).slots A) (F0 m g.1 ls' st') := fun c0 hc0 hir htop hend => by
    have hst := hR'.stk
    rw [cy_top_ok htop] at hst
    obtain ⟨i, rfl, hi⟩ := cy_one hE'.1 hst
    have hv : cy_val r' sf st sof sot a o k = c0 := cy_end_ok hE' hend
    rw [cy_val_x h6 x1] at hv
    refine cy_iret F cy_pl116 hret hir hS' ⟨by rw [z1]; exact Nat.zero_le _, by rw [z2]; exact Nat.zero_le _⟩ (fun T hT hF => ⟨i, ws, rfl, by rw [hi, hv], cy_sm.rf, by rw [cy_rw_ne (by rw [hv]; exact hc0)]; exact hW, ?_, hF⟩)
    rw [hT]
    exact cy_back (E' := g.2.2.2.1) (h' := g.2.2.2.2.1) hw hh hE x1 x2 hWd'
  rcases h4 with ⟨e1, e2, e3⟩ | ⟨e1, e2, e3⟩ | ⟨e1, e2, e3⟩ | ⟨e1, e2, e3, ⟨e4, e5⟩, e6⟩
  · exact fail 1 (by omega) (by rw [Nat.eq_of_beq_eq_true e1]; exact i1) e2 e3
  · exact fail 2 (by omega) (by rw [Nat.eq_of_beq_eq_true e1]; exact i2) e2 e3
  · exact fail 3 (by omega) (by rw [Nat.eq_of_beq_eq_true e1]; exact i3) e2 e3
  · have hv : cy_val r' sf st sof sot a o k = 0 := cy_end_ok hE' e3
    have hv0 : cy_val r sf st sof sot a o k = 0 := (cy_val_x h6 x1).symm.trans hv
    obtain ⟨l1, l2, l3, l4, l5, l6, l7⟩ := cy_six_ok h6
    obtain ⟨⟨q1, q2, q3, q4⟩, q5, -, q7, q8⟩ := cy_code0 hv0
    have b1 : ai_vx r sf ≤ 12 := by
      rw [← x1.vx l1]
      exact cy_hi_ok hE' (Nat.lt_of_lt_of_le l1 x3) e4
    have b2 : ai_vx r st ≤ 12 := by
      rw [← x1.vx l2]
      exact cy_hi_ok hE' (Nat.lt_of_lt_of_le l2 x3) e5
    have e1 := Nat.eq_of_beq_eq_true e1
    have hR2 := hR'
    rw [e2] at hR2
    rw [e1]
    refine hg_copy (G := g.2.2.2) (S := []) (q0 := 70 + f) (q := 70 + t) (K := 12) (M := 12) (N := (ai_vx r k).toNat) (Dp := (ai_vx r o).toNat) (Sp := (ai_vx r a).toNat) (f := rw f) (g := rw t) cy_pl116 F hacp hR2 (by omega) (by omega) (by rw [hh]; exact hct) (by rw [hh]; exact hcf) (hW.1 f hf) (hW.1 t ht) (by rw [x1.vx l7]; omega) (by rw [x1.vx l6]; omega) (by rw [x1.vx l5]; omega) (by omega) (by omega) (by decide) (fun ws1 H1 locs1 st1 hia hsm hR1 => ?_)
    have sm1 : cy_sm ws ws1 := fun x hx => hsm x (fun q => by
      rw [q, cy_gh_r ht] at hx
      cases hx)
    have W1 : cy_W tyc ws1 (cy_rw rw f t (ai_vx r a) (ai_vx r o) (ai_vx r k) 0) rg bf := ⟨fun s hs => by
      by_cases es : s = t
      · rw [es]
        have : cy_rw rw f t (ai_vx r a) (ai_vx r o) (ai_vx r k) 0 t = va_cpy (rw f) (rw t) (ai_vx r a).toNat (ai_vx r o).toNat (ai_vx r k).toNat := if_pos ⟨rfl, rfl⟩
        rw [this]
        exact hia
      · have : cy_rw rw f t (ai_vx r a) (ai_vx r o) (ai_vx r k) 0 s = rw s := if_neg (fun q => es q.2)
        rw [this]
        exact cy_ia (hW.1 s hs) (hsm _ (by omega)), cy_ia hW.2.1 (hsm _ (by omega)), cy_ia hW.2.2 (hsm _ (by omega))⟩
    have hg0 : g.2.2.2 = cy_c0 g.2.2.2 := by
      obtain ⟨pc0, L0, S0, E0, h0, c0, s0⟩ := g
      have z1 : c0 = 0 := z1
      have z2 : s0 = 0 := z2
      rw [z1, z2]
      rfl
    rw [hg0] at hR1 ⊢
    refine lh_ok (G := cy_c0 g.2.2.2) (k0 := 0) (T := []) cy_pl116 F hl trivial (by omega) (cy_pw hPw sm1) e6 hR1 (fun g2 hg2 r2 ad2 y1 y2 y3 y4 H2 locs2 ls2 st2 hR3 => ?_)
    unfold cy_e0 at hg2
    simp only [Bool.and_eq_true] at hg2
    obtain ⟨f1, f2, f3, f4⟩ := hg2
    obtain ⟨z3, z4⟩ := cy_z_ok f4
    have hst := hR3.stk
    rw [cy_top_ok f2] at hst
    obtain ⟨i, rfl, hi⟩ := cy_one hR3.env.1 hst
    obtain ⟨hWd3, hS3, -, -⟩ := hR3.wd
    have y1 : ai_ext g.2.2.2.1.1 r' r2 := y1
    have y2 : ai_ext g.2.2.2.2.1.1 ad' ad2 := y2
    refine cy_iret F cy_pl116 hret (by rw [Nat.eq_of_beq_eq_true f1]; exact i4) hS3 ⟨by rw [z3]; exact Nat.zero_le _, by rw [z4]; exact Nat.zero_le _⟩ (fun T hT hF => ⟨i, ws1, rfl, by rw [hi, hv0], sm1, by rw [hv0]; exact W1, ?_, hF⟩)
    rw [hT]
    exact cy_back (E' := g2.2.2.2.1) (h' := g2.2.2.2.2.1) hw (hy_heq_ok f3) hE (x1.trans y1 x3) (x2.trans y2 x4) hWd3
/-! LM.copy -/
theorem cy_pl138 : lh_plain 138 = true := by decide +kernel
theorem cy_ir138 : fc_ir 138 44 = true := by decide +kernel
theorem cy_b138 : ct_bud 116 = (0, 0) ∧ ct_bud 138 = (1, 6) ∧ ct_bud 261 = (1, 6) ∧ ct_bud 182 = (0, 0) := by decide +kernel
noncomputable def cy_a2 (f t : Nat) (a o n : ai_X) : List ai_V := [.inr (.inr (some (some 16))), .inl (0, .ofNat f), .inl a, .inl (0, .ofNat t), .inl o, .inl n]
noncomputable def cy_e2 (G : ai_G) (f t : Nat) (sf st sof sot a o n : ai_X) (g : ai_F) : Bool := Nat.beq g.1 41 && ((hy_heq g.2.2.2.2.1 G.2.1 && cy_z g) && (cy_vk 138 41 116 g.2.2.2.2.1 g.2.2.1 (cy_a1 f t a o n) [] && cy_ck1 g.2.2.2 f t sf st sof sot a o n))
noncomputable def cy_ck2 (G : ai_G) (f t : Nat) (sf st sof sot a o n : ai_X) : Bool := (xs_wh G.1.1 G.2.1 && cy_six G.1 sf st sof sot a o n) && (cy_pd 138 (cy_a2 f t a o n) && lz_chk [] 138 [41] false 0 (cy_L 138 (cy_a2 f t a o n)) [] (cy_c0 G) (cy_e2 G f t sf st sof sot a o n))
set_option maxHeartbeats 2000000 in
theorem cy_copy {n : Nat} {l : Launch} {D : va_G} {tyc : Nat → ClassId} {A : Nat → Prop} {sa : ai_B} {ws : va_W} {rw : Nat → Nat → Int32} {rg bf : Nat → Int32} {r : Nat → Int} {ad : Nat → Nat} {H0 : Heap} {As : List Value} {G : ai_G} {f t : Nat} {sf st sof sot a o k : ai_X}
    (hn : 4 ≤ n) (hl : l.stackTraces = false) (hPw : ai_Pw tyc ws) (hf : f < 12) (ht : t < 12) (hck : cy_ck2 G f t sf st sof sot a o k = true) (hW : cy_W tyc ws rw rg bf) (hWd : ai_Wd D tyc A sa ws r ad (cy_c0 G) H0) (hA : ai_gF r ad G.1.1 G.2.1.1 (cy_a2 f t a o k) As) :
    vx_Met l (ct_mt 138).1 (ai_cw (ct_mt 138) :: ft_W) (lt_rm (n + 2) 138) (fun a U => a = As.toArray ∧ U.heap = H0 ∧ ai_St D tyc A sa ct_strs ft_N U ∧ ∀ q, H0.size ≤ q → A q) (cy_Q D tyc A sa ws rw rg bf r ad G f t (ai_vx r a) (ai_vx r o) (ai_vx r k) (cy_val r sf st sof sot a o k)) (fun _ _ _ => False) (lt_rm (n + 2) 138).cells (lt_rm (n + 2) 138).slots A := by
  unfold cy_ck2 at hck
  simp only [Bool.and_eq_true] at hck
  obtain ⟨⟨hw, h6⟩, hpd, hseg⟩ := hck
  have hw := (xs_wh_eq (N := G.1.1) (h := G.2.1)).symm.trans hw
  have hE : ai_gE r G.1 := hWd.env
  refine lh_met (n := n + 1) cy_pl138 _ (cy_pd_ok hpd) hWd hA (fun p e s m below meth c ls F hret hH hR => ?_)
  refine lh_ok (n := n + 1) (G := cy_c0 G) (k0 := 0) (T := []) cy_pl138 F hl trivial (by omega) hPw hseg hR (fun g hg r' ad' x1 x2 x3 x4 H' locs' ls' st' hR' => ?_)
  have x1 : ai_ext G.1.1 r r' := x1
  have x2 : ai_ext G.2.1.1 ad ad' := x2
  unfold cy_e2 at hg
  simp only [Bool.and_eq_true] at hg
  obtain ⟨e1, ⟨h1, h2⟩, hvk, hck1⟩ := hg
  have hh := hy_heq_ok h1
  obtain ⟨z1, z2⟩ := cy_z_ok h2
  obtain ⟨l1, l2, l3, l4, l5, l6, l7⟩ := cy_six_ok h6
  obtain ⟨b1, b2, -⟩ := cy_b138
  have rc : (lt_rm (n + 1) 116).cells = 0 := by
    show (ct_bud 116).1 = 0
    rw [b1]
  have rs : (lt_rm (n + 1) 116).slots = 0 := by
    show (ct_bud 116).2 = 0
    rw [b1]
  obtain ⟨idx, b, ec, hv⟩ := cy_vk_ok hvk
  rw [Nat.eq_of_beq_eq_true e1]
  refine lh_callv (n := n + 1) (G := g.2.2.2) (mi := 138) (mj := 116) cy_pl138 cy_pl116 (by decide) F ec hv hR' ⟨by rw [z1, rc]; exact Nat.zero_le _, by rw [z2, rs]; exact Nat.zero_le _⟩ (fun As' gA hWd2 => cy_lay hn hl hPw hf ht hck1 hW hWd2 gA) (fun a0 st0 T v rest locs1 e0 hq hrest hS1 => ?_)
  obtain ⟨i, ws', ev, hi, sm, W1, hWd3, hF⟩ := hq
  cases ev
  have er : rest = [] := by
    cases rest with
    | nil => rfl
    | cons _ _ => exact hrest.elim
  subst er
  rw [cy_val_x h6 x1] at hi
  rw [x1.vx l5, x1.vx l6, x1.vx l7, cy_val_x h6 x1] at W1
  refine cy_iret (n := n + 1) F cy_pl138 hret cy_ir138 (hS1 hF) ⟨by rw [z1, rc]; exact Nat.zero_le _, by rw [z2, rs]; exact Nat.zero_le _⟩ (fun T2 hT hF2 => ⟨i, ws', rfl, hi, sm, W1, ?_, hF2⟩)
  rw [hT]
  exact cy_back (E' := g.2.2.2.1) (h' := g.2.2.2.2.1) hw hh hE x1 x2 hWd3
/-! the law's helper -/
theorem cy_pl261 : lh_plain 261 = true := by decide +kernel
theorem cy_ir261 : fc_ir 261 24 = true := by decide +kernel
theorem cy_code_le {sf st sof sot a o n : Int} : cy_code sf st sof sot a o n < 4 := by
  unfold cy_code
  split
  · omega
  · split
    · omega
    · split <;> omega
noncomputable def cy_h3 (h : ai_H) (c : Nat) : ai_H := match ai_cell h 335 with
  | some (.inr (.inl (ty, n, lo, hi, _))) => (h.1, ai_tset 9 h.2 335 (some (.inr (.inl (ty, n, lo, hi, [((0, .ofNat 0), (0, .ofNat c))])))))
  | _ => h
noncomputable def cy_cb (G : ai_G) (mj : Nat) : ai_G := (G.1, G.2.1, (ct_bud mj).1, (ct_bud mj).2)
noncomputable def cy_a3 (f t : Nat) (a o n : ai_X) : List ai_V := [.inr (.inr (some (some 16))), .inl (0, .ofNat f), .inl a, .inl (0, .ofNat t), .inl o, .inl n, .inr (.inr (some (some 335)))]
noncomputable def cy_s3 : List ai_V := [.inl (0, .ofNat 0), .inr (.inr (some (some 335)))]
noncomputable def cy_e4 (G : ai_G) (c : Nat) (g : ai_F) : Bool := Nat.beq g.1 24 && (cy_top g 0 && (hy_heq g.2.2.2.2.1 (cy_h3 G.2.1 c) && (Nat.ble g.2.2.2.2.2.1 1 && Nat.ble g.2.2.2.2.2.2 6)))
noncomputable def cy_e3 (G : ai_G) (f t : Nat) (sf st sof sot a o n : ai_X) (g : ai_F) : Bool := Nat.beq g.1 11 && ((hy_heq g.2.2.2.2.1 G.2.1 && cy_z g) && (cy_vk 261 11 138 g.2.2.2.2.1 g.2.2.1 (cy_a2 f t a o n) cy_s3 && (cy_ck2 g.2.2.2 f t sf st sof sot a o n && (List.range 4).all (fun c => xs_wh G.1.1 (cy_h3 G.2.1 c) && (Nat.beq (cy_h3 G.2.1 c).1 G.2.1.1 && lz_chk [] 261 [24] false 14 g.2.1 (.inl (0, .ofNat c) :: cy_s3) (cy_cb g.2.2.2 138) (cy_e4 G c))))))
noncomputable def cy_ck3 (G : ai_G) (f t : Nat) (sf st sof sot a o n : ai_X) : Bool := (xs_wh G.1.1 G.2.1 && cy_six G.1 sf st sof sot a o n) && (cy_pd 261 (cy_a3 f t a o n) && lz_chk [] 261 [11] false 0 (cy_L 261 (cy_a3 f t a o n)) [] (cy_c0 G) (cy_e3 G f t sf st sof sot a o n))
noncomputable def cy_Q3 (D : va_G) (tyc : Nat → ClassId) (A : Nat → Prop) (sa : ai_B) (ws : va_W) (rw : Nat → Nat → Int32) (rg bf : Nat → Int32) (r : Nat → Int) (ad : Nat → Nat) (G : ai_G) (f t : Nat) (a o n : Int) (c : Nat) : Array Value → State → Outcome → State → Prop :=
  fun _ s u T => ∃ (i : Int32) (ws' : va_W), u = .returned (some (.int i)) ∧ i.toInt = 0 ∧ cy_sm ws ws' ∧ cy_W tyc ws' (cy_rw rw f t a o n c) rg bf ∧ ai_Wd D tyc A sa ws' r ad (G.1, cy_h3 G.2.1 c, 0, 0) T.heap ∧ va_F A s T
set_option maxHeartbeats 2000000 in
theorem cy_help {n : Nat} {l : Launch} {D : va_G} {tyc : Nat → ClassId} {A : Nat → Prop} {sa : ai_B} {ws : va_W} {rw : Nat → Nat → Int32} {rg bf : Nat → Int32} {r : Nat → Int} {ad : Nat → Nat} {H0 : Heap} {As : List Value} {G : ai_G} {f t : Nat} {sf st sof sot a o k : ai_X}
    (hn : 4 ≤ n) (hl : l.stackTraces = false) (hPw : ai_Pw tyc ws) (hf : f < 12) (ht : t < 12) (hck : cy_ck3 G f t sf st sof sot a o k = true) (hW : cy_W tyc ws rw rg bf) (hWd : ai_Wd D tyc A sa ws r ad (cy_c0 G) H0) (hA : ai_gF r ad G.1.1 G.2.1.1 (cy_a3 f t a o k) As) :
    vx_Met l (ct_mt 261).1 (ai_cw (ct_mt 261) :: ft_W) (lt_rm (n + 3) 261) (fun a U => a = As.toArray ∧ U.heap = H0 ∧ ai_St D tyc A sa ct_strs ft_N U ∧ ∀ q, H0.size ≤ q → A q) (cy_Q3 D tyc A sa ws rw rg bf r ad G f t (ai_vx r a) (ai_vx r o) (ai_vx r k) (cy_val r sf st sof sot a o k)) (fun _ _ _ => False) (lt_rm (n + 3) 261).cells (lt_rm (n + 3) 261).slots A := by
  unfold cy_ck3 at hck
  simp only [Bool.and_eq_true] at hck
  obtain ⟨⟨hw, h6⟩, hpd, hseg⟩ := hck
  have hw := (xs_wh_eq (N := G.1.1) (h := G.2.1)).symm.trans hw
  have hE : ai_gE r G.1 := hWd.env
  refine lh_met (n := n + 2) cy_pl261 _ (cy_pd_ok hpd) hWd hA (fun p e s m below meth c ls F hret hH hR => ?_)
  refine lh_ok (n := n + 2) (G := cy_c0 G) (k0 := 0) (T := []) cy_pl261 F hl trivial (by omega) hPw hseg hR (fun g hg r' ad' x1 x2 x3 x4 H' locs' ls' st' hR' => ?_)
  have x1 : ai_ext G.1.1 r r' := x1
  have x2 : ai_ext G.2.1.1 ad ad' := x2
  unfold cy_e3 at hg
  simp only [Bool.and_eq_true] at hg
  obtain ⟨e1, ⟨h1, h2⟩, hvk, hck2, hall⟩ := hg
  have hh := hy_heq_ok h1
  obtain ⟨z1, z2⟩ := cy_z_ok h2
  obtain ⟨l1, l2, l3, l4, l5, l6, l7⟩ := cy_six_ok h6
  obtain ⟨b1, b2, b3, -⟩ := cy_b138
  have rc : (lt_rm (n + 2) 138).cells = 1 := by
    show (ct_bud 138).1 = 1
    rw [b2]
  have rs : (lt_rm (n + 2) 138).slots = 6 := by
    show (ct_bud 138).2 = 6
    rw [b2]
  have rc3 : (lt_rm (n + 2 + 1) 261).cells = 1 := by
    show (ct_bud 261).1 = 1
    rw [b3]
  have rs3 : (lt_rm (n + 2 + 1) 261).slots = 6 := by
    show (ct_bud 261).2 = 6
    rw [b3]
  obtain ⟨idx, b, ec, hv⟩ := cy_vk_ok hvk
  obtain ⟨-, -, hLL, -⟩ := hR'.wd
  rw [Nat.eq_of_beq_eq_true e1]
  refine lh_callv (n := n + 2) (G := g.2.2.2) (mi := 261) (mj := 138) cy_pl261 cy_pl138 (by decide) F ec hv hR' ⟨by rw [z1, rc, rc3]; exact Nat.le_refl _, by rw [z2, rs, rs3]; exact Nat.le_refl _⟩ (fun As' gA hWd2 => cy_copy hn hl hPw hf ht hck2 hW hWd2 gA) (fun a0 st0 T v rest locs1 e0 hq hrest hS1 => ?_)
  obtain ⟨i, ws', ev, hi, sm, W1, hWd3, hF⟩ := hq
  cases ev
  rw [cy_val_x h6 x1] at hi
  rw [x1.vx l5, x1.vx l6, x1.vx l7, cy_val_x h6 x1] at W1
  have hE3 := hWd3.env
  have hR2 : ai_Rel D tyc A s sa ws' (ct_mt 261).2.2.1 r' ad' g.2.1 (.inl (0, ((cy_val r sf st sof sot a o k : Nat) : Int)) :: cy_s3) (cy_cb g.2.2.2 138) T.heap locs1 ls' (.int i :: rest) := ai_Wd.rel (G := cy_cb g.2.2.2 138) hWd3 (hS1 hF) hLL ⟨⟨hE3.2.1, i, rfl, by show i.toInt = r' 0 + _; rw [hE3.1, Int.zero_add]; exact hi⟩, hrest⟩
  have hc4 := List.all_eq_true.mp hall (cy_val r sf st sof sot a o k) (List.mem_range.mpr cy_code_le)
  rw [Bool.and_eq_true, Bool.and_eq_true] at hc4
  obtain ⟨hw3, hh3, hseg3⟩ := hc4
  have hw3 := xs_wh_eq.symm.trans hw3
  have hh3 := Nat.eq_of_beq_eq_true hh3
  have q1 : g.2.2.2.2.2.1 + (lt_rm (n + 2) 138).cells = (cy_cb g.2.2.2 138).2.2.1 := by
    rw [z1, rc]
    show 0 + 1 = (ct_bud 138).1
    rw [b2]
  have q2 : g.2.2.2.2.2.2 + (lt_rm (n + 2) 138).slots = (cy_cb g.2.2.2 138).2.2.2 := by
    rw [z2, rs]
    show 0 + 6 = (ct_bud 138).2
    rw [b2]
  rw [q1, q2]
  refine lh_ok (n := n + 2) (G := cy_cb g.2.2.2 138) (k0 := 0) (T := []) cy_pl261 F hl trivial (by omega) (cy_pw hPw sm) hseg3 hR2 (fun g2 hg2 r2 ad2 y1 y2 y3 y4 H2 locs2 ls2 st2 hR3 => ?_)
  unfold cy_e4 at hg2
  simp only [Bool.and_eq_true] at hg2
  obtain ⟨f1, f2, f3, f4, f5⟩ := hg2
  have hst := hR3.stk
  rw [cy_top_ok f2] at hst
  obtain ⟨j, rfl, hj⟩ := cy_one hR3.env.1 hst
  obtain ⟨hWd4, hS4, -, -⟩ := hR3.wd
  have y1 : ai_ext g.2.2.2.1.1 r' r2 := y1
  have y2 : ai_ext g.2.2.2.2.1.1 ad' ad2 := y2
  refine cy_iret (n := n + 2) F cy_pl261 hret (by rw [Nat.eq_of_beq_eq_true f1]; exact cy_ir261) hS4 ⟨by rw [rc3]; exact Nat.le_of_ble_eq_true f4, by rw [rs3]; exact Nat.le_of_ble_eq_true f5⟩ (fun T2 hT hF2 => ⟨j, ws', rfl, hj, sm, W1, ?_, hF2⟩)
  rw [hT]
  exact cy_back (E' := g2.2.2.2.1) (h' := g2.2.2.2.2.1) hw3 (hy_heq_ok f3) hE (x1.trans y1 x3) (by rw [hh3]; exact x2.trans y2 x4) hWd4
/-! LMModel.copy -/
theorem cy_pl182 : lh_plain 182 = true := by decide +kernel
theorem cy_ir182 : fc_ir 182 46 = true ∧ fc_ir 182 63 = true ∧ fc_ir 182 88 = true ∧ fc_ir 182 165 = true := by decide +kernel
theorem cy_dc182 : decode (ct_mt 182).2.1 118 = .ok (.iaload, 1) ∧ decode (ct_mt 182).2.1 119 = .ok (.iastore, 1) ∧ decode (ct_mt 182).2.1 156 = .ok (.iaload, 1) ∧ decode (ct_mt 182).2.1 157 = .ok (.iastore, 1) := by decide +kernel
noncomputable def cy_hm (h : ai_H) : ai_H := match ai_cell h 264 with
  | some (.inl (ci, fs)) => (h.1, ai_tset 9 h.2 264 (some (.inl (ci, fs.set 1 (.inl (0, .ofNat 0))))))
  | _ => h
noncomputable def cy_gm (G : ai_G) : ai_G := (sm_E G.1 [(.ofNat 0, .ofNat 12)], cy_hm G.2.1, 0, 0)
noncomputable def cy_a4 (f t : Nat) (a o n : ai_X) : List ai_V := [.inr (.inr (some (some 264))), .inl (0, .ofNat f), .inl a, .inl (0, .ofNat t), .inl o, .inl n]
noncomputable def cy_Lm (f t : Nat) (a o n : ai_X) (M : Nat) : List ai_V := [.inr (.inr (some (some 264))), .inl (0, .ofNat f), .inl a, .inl (0, .ofNat t), .inl o, .inl n, .inl (M, 0)]
noncomputable def cy_sum1 (E : ai_E) (b : Nat) (a m x : ai_X) : Bool := match ai_find 0 (0, .ofNat b) a E.2.2 with
  | some q => (match ai_find 0 (q, 0) m E.2.2 with
    | some q2 => ai_xeq x (q2, 0)
    | none => false)
  | none => false
noncomputable def cy_sum0 (E : ai_E) (a m x : ai_X) : Bool := match ai_find 0 a m E.2.2 with
  | some q2 => ai_xeq x (q2, 0)
  | none => false
/-- 0 and a is a itself there -/
noncomputable def cy_sum (E : ai_E) (b : Nat) (a m x : ai_X) : Bool := cy_sum1 E b a m x || (Nat.beq b 0 && cy_sum0 E a m x)
theorem cy_sum_ok {r : Nat → Int} {E : ai_E} {b : Nat} {a m x : ai_X} (hE : ai_gE r E) (h : cy_sum E b a m x = true) (hb : b ≤ 200) (h1 : 0 ≤ ai_vx r a ∧ ai_vx r a ≤ 12) (h2 : 0 ≤ ai_vx r m ∧ ai_vx r m ≤ 12) : ai_vx r x = (b : Int) + ai_vx r a + ai_vx r m := by
  unfold cy_sum at h
  rw [Bool.or_eq_true, Bool.and_eq_true] at h
  rcases h with h | ⟨hb0, h⟩
  case inr =>
    have hb0 := Nat.eq_of_beq_eq_true hb0
    subst hb0
    unfold cy_sum0 at h
    split at h
    · rename_i q2 eq2
      rw [ai_xeq_iff.mp h]
      have g2 : r q2 = (ai_vx r a + ai_vx r m).bmod 4294967296 := cy_ds hE _ (ai_find_ok eq2)
      rw [Int.bmod_eq_of_le_mul_two (by omega) (by omega)] at g2
      show r q2 + 0 = _
      rw [g2]
      omega
    · cases h
  unfold cy_sum1 at h
  split at h
  · rename_i q eq
    split at h
    · rename_i q2 eq2
      rw [ai_xeq_iff.mp h]
      have g1 : r q = (ai_vx r (0, Int.ofNat b) + ai_vx r a).bmod 4294967296 := cy_ds hE _ (ai_find_ok eq)
      have g2 : r q2 = (ai_vx r (q, 0) + ai_vx r m).bmod 4294967296 := cy_ds hE _ (ai_find_ok eq2)
      have e0 : ai_vx r (0, Int.ofNat b) = (b : Int) := by
        show r 0 + (b : Int) = b
        rw [hE.1, Int.zero_add]
      have e1 : ai_vx r (q, 0) = r q := Int.add_zero _
      rw [e0, Int.bmod_eq_of_le_mul_two (by omega) (by omega)] at g1
      rw [e1, g1, Int.bmod_eq_of_le_mul_two (by omega) (by omega)] at g2
      show r q2 + 0 = _
      rw [g2, Int.add_zero]
    · cases h
  · cases h
noncomputable def cy_eh (G : ai_G) (L : List ai_V) (pc : Nat) (o : List (Nat × ai_X)) (g : ai_F) : Bool := Nat.beq g.1 pc && (cy_z g && (Nat.ble G.1.1 g.2.2.2.1.1 && hy_subY G.1 [(.ofNat 0, .ofNat 12)] (cy_hm G.2.1) L [] g.2.1 g.2.2.1 g.2.2.2 o))
noncomputable def cy_e5 (G : ai_G) (f t : Nat) (sf st sof sot a o n : ai_X) (g : ai_F) : Bool := (cy_z g && Nat.ble G.1.1 g.2.2.2.1.1) && ((Nat.beq g.1 46 && (hy_heq g.2.2.2.2.1 (cy_hm G.2.1) && (cy_top g 1 && cy_end g.2.2.2.1 sf st sof sot a o n 1))) || ((Nat.beq g.1 63 && (hy_heq g.2.2.2.2.1 (cy_hm G.2.1) && (cy_top g 2 && cy_end g.2.2.2.1 sf st sof sot a o n 2))) || ((Nat.beq g.1 88 && (hy_heq g.2.2.2.2.1 (cy_hm G.2.1) && (cy_top g 3 && cy_end g.2.2.2.1 sf st sof sot a o n 3))) || (cy_eh G (cy_Lm f t a o n G.1.1) 92 [(G.1.1, (0, .ofNat 0))] g && (cy_end g.2.2.2.1 sf st sof sot a o n 0 && (cy_hi g.2.2.2.1 sf 12 && cy_hi g.2.2.2.1 st 12))))))
noncomputable def cy_c6 (G : ai_G) (g : ai_F) : ai_G := hg_cap (hg_new (cy_c0 g.2.2.2) (ai_lo32, ai_hi32)) G.1.1 (.ofNat 0, .ofNat 11)
noncomputable def cy_e6 (G : ai_G) (f t : Nat) (a o n : ai_X) (g : ai_F) : Bool := (hy_heq g.2.2.2.2.1 (cy_hm G.2.1) && cy_z g) && ((Nat.beq g.1 126 && ((ai_lef n (G.1.1, 0) 0 g.2.2.2.1.2.2 && decide (g.2.2.1 = [])) && lz_chk [] 182 [129] false 126 g.2.1 [] (cy_c0 g.2.2.2) (cy_eh G (cy_Lm f t a o n G.1.1) 129 [(G.1.1, (0, .ofNat 0))]))) || (Nat.beq g.1 118 && (ai_lef (G.1.1, 0) n (-1) g.2.2.2.1.2.2 && ((match g.2.2.1 with
  | [.inl x, .inr (.inr (some (some p))), .inl y, .inr (.inr (some (some q)))] => Nat.beq p 283 && (Nat.beq q 284 && (ai_xeq y (G.1.1, 0) && cy_sum g.2.2.2.1 (12 * f) a (G.1.1, 0) x))
  | _ => false) && lz_chk [] 182 [92] false 120 g.2.1 [] (cy_c6 G g) (cy_eh G (cy_Lm f t a o n G.1.1) 92 [(G.1.1, (G.1.1, 1))])))))
noncomputable def cy_e8 (G : ai_G) (g : ai_F) : Bool := Nat.beq g.1 165 && (cy_top g 0 && (hy_heq g.2.2.2.2.1 (cy_hm G.2.1) && cy_z g))
noncomputable def cy_e7 (G : ai_G) (f t : Nat) (a o n : ai_X) (g : ai_F) : Bool := (hy_heq g.2.2.2.2.1 (cy_hm G.2.1) && cy_z g) && ((Nat.beq g.1 164 && ((ai_lef n (G.1.1, 0) 0 g.2.2.2.1.2.2 && decide (g.2.2.1 = [])) && lz_chk [] 182 [165] false 164 g.2.1 [] (cy_c0 g.2.2.2) (cy_e8 G))) || (Nat.beq g.1 156 && (ai_lef (G.1.1, 0) n (-1) g.2.2.2.1.2.2 && ((match g.2.2.1 with
  | [.inl y, .inr (.inr (some (some q))), .inl x, .inr (.inr (some (some p)))] => Nat.beq p 283 && (Nat.beq q 284 && (ai_xeq y (G.1.1, 0) && cy_sum g.2.2.2.1 (12 * t) o (G.1.1, 0) x))
  | _ => false) && lz_chk [] 182 [129] false 158 g.2.1 [] (cy_c6 G g) (cy_eh G (cy_Lm f t a o n G.1.1) 129 [(G.1.1, (G.1.1, 1))])))))
noncomputable def cy_ck4 (G : ai_G) (f t : Nat) (sf st sof sot a o n : ai_X) : Bool := (xs_wh G.1.1 (cy_hm G.2.1) && (Nat.beq (cy_hm G.2.1).1 G.2.1.1 && cy_six G.1 sf st sof sot a o n)) && ((decide (G.1.2.2 = []) && ((ai_cell (cy_hm G.2.1) 283).isNone && (ai_cell (cy_hm G.2.1) 284).isNone)) && (cy_pd 182 (cy_a4 f t a o n) && (lz_chk [] 182 [46, 63, 88, 92] false 0 (cy_L 182 (cy_a4 f t a o n)) [] (cy_c0 G) (cy_e5 G f t sf st sof sot a o n) && (lz_chk [] 182 [118, 126] false 92 (cy_Lm f t a o n G.1.1) [] (cy_gm G) (cy_e6 G f t a o n) && lz_chk [] 182 [156, 164] false 129 (cy_Lm f t a o n G.1.1) [] (cy_gm G) (cy_e7 G f t a o n)))))
noncomputable def cy_Q4 (D : va_G) (tyc : Nat → ClassId) (A : Nat → Prop) (sa : ai_B) (ws : va_W) (rw : Nat → Nat → Int32) (rg : Nat → Int32) (r : Nat → Int) (ad : Nat → Nat) (G : ai_G) (f t : Nat) (a o n : Int) (c : Nat) : Array Value → State → Outcome → State → Prop :=
  fun _ s u T => ∃ (i : Int32) (ws' : va_W) (bf' : Nat → Int32), u = .returned (some (.int i)) ∧ i.toInt = (c : Int) ∧ cy_sm ws ws' ∧ cy_W tyc ws' rw (cy_rg rg f t a o n c) bf' ∧ ai_Wd D tyc A sa ws' r ad (G.1, cy_hm G.2.1, 0, 0) T.heap ∧ va_F A s T
section CYL
variable {p : Program} {l : Launch} {e : Env} {s : State} {m : MethodId} {args : Array Value} {below : List Frame} {meth : Method} {c : Code} {Q : State → Prop}
variable {D : va_G} {tyc : Nat → ClassId} {A : Nat → Prop} {sa : ai_B} {ws0 : va_W} {n : Nat}
variable {G : ai_G} {f t : Nat} {a o k : ai_X} {rw : Nat → Nat → Int32} {rg0 : Nat → Int32} {r0 : Nat → Int} {ad0 : Nat → Nat} {av ov kv : Nat}
/-- a loop's head: what is wanted of the way on from it -/
noncomputable def cy_P (p : Program) (l : Launch) (e : Env) (s : State) (m : MethodId) (args : Array Value) (below : List Frame) (meth : Method) (c : Code) (Q : State → Prop) (D : va_G) (tyc : Nat → ClassId) (A : Nat → Prop) (sa : ai_B) (n : Nat) (G : ai_G) (f t : Nat) (a o k : ai_X) (ws0 : va_W) (rw : Nat → Nat → Int32) (r0 : Nat → Int) (ad0 : Nat → Nat) (pc i : Nat) (rg bf : Nat → Int32) : Prop :=
  ∀ (ws : va_W) (r : Nat → Int) (ad : Nat → Nat) (H : Heap) (locs : List Loc) (ls : Array Slot) (st : List Value), cy_sm ws0 ws → cy_W tyc ws rw rg bf → ai_ext G.1.1 r0 r → ai_ext G.2.1.1 ad0 ad → r G.1.1 = (i : Int) → ai_Rel D tyc A s sa ws (ct_mt 182).2.2.1 r ad (cy_Lm f t a o k G.1.1) [] (cy_gm G) H locs ls st → W p l e (lt_rm (n + 1) 182) s m args below meth c H locs 0 0 Q (F0 m pc ls st)
theorem cy_eh_ok {pc : Nat} {L : List ai_V} {oo : List (Nat × ai_X)} {g : ai_F} {ws : va_W} {r : Nat → Int} {ad : Nat → Nat} {nL : Nat} {H : Heap} {locs : List Loc} {ls : Array Slot} {st : List Value} (h : cy_eh G L pc oo g = true) (hd : G.1.2.2 = []) (hE0 : ai_gE r0 G.1) (hx : ai_ext G.1.1 r0 r) (hR : ai_Rel D tyc A s sa ws nL r ad g.2.1 g.2.2.1 g.2.2.2 H locs ls st) :
    g.1 = pc ∧ g.2.2.2.2.2.1 = 0 ∧ g.2.2.2.2.2.2 = 0 ∧ ∃ r2, ai_ext G.1.1 r0 r2 ∧ ai_Rel D tyc A s sa ws nL r2 ad L [] (cy_gm G) H locs ls st ∧ ∀ q ∈ oo, r2 q.1 = ai_vx r q.2 := by
  unfold cy_eh at h
  simp only [Bool.and_eq_true] at h
  obtain ⟨h1, h2, h3, h4⟩ := h
  obtain ⟨z1, z2⟩ := cy_z_ok h2
  obtain ⟨r2, a1, a2, a3⟩ := hw_okY hE0 hd hx (Nat.le_of_ble_eq_true h3) hR (hy_subY_ok h4)
  exact ⟨Nat.eq_of_beq_eq_true h1, z1, z2, r2, a1, a2, a3⟩
theorem cy_g0 {g : ai_F} (h : cy_z g = true) : g.2.2.2 = cy_c0 g.2.2.2 := by
  obtain ⟨z1, z2⟩ := cy_z_ok h
  obtain ⟨pc0, L0, S0, E0, h0, c0, s0⟩ := g
  have z1 : c0 = 0 := z1
  have z2 : s0 = 0 := z2
  rw [z1, z2]
  rfl
theorem cy_newN (G : ai_G) (q : Int × Int) : (hg_new G q).1.1 = G.1.1 + 1 := by
  obtain ⟨⟨N, lb, ds⟩, G2⟩ := G
  rfl
theorem cy_gmN : (cy_gm G).1.1 = G.1.1 + 1 := rfl
set_option maxHeartbeats 2000000 in
/-- the first loop, once -/
theorem cy_s1 (F : ls_Fr p (lt_rm (n + 1) 182) s m args meth c D tyc A sa 182) (hn : 4 ≤ n) (hl : l.stackTraces = false) (hPw : ai_Pw tyc ws0) (hd : G.1.2.2 = []) (hE0 : ai_gE r0 G.1) (hhm : (cy_hm G.2.1).1 = G.2.1.1) (h283 : ai_cell (cy_hm G.2.1) 283 = none) (h284 : ai_cell (cy_hm G.2.1) 284 = none) (hck : lz_chk [] 182 [118, 126] false 92 (cy_Lm f t a o k G.1.1) [] (cy_gm G) (cy_e6 G f t a o k) = true)
    (ha : a.1 < G.1.1 ∧ k.1 < G.1.1) (va : ai_vx r0 a = (av : Int)) (vk : ai_vx r0 k = (kv : Int)) (hak : av + kv ≤ 12) (hf : f < 12) {i : Nat} (hi : i ≤ kv) {bf : Nat → Int32} (hbf : ∀ j, j < i → bf j = rg0 (12 * f + av + j))
    (next : i < kv → ∀ bf', (∀ j, j < i + 1 → bf' j = rg0 (12 * f + av + j)) → cy_P p l e s m args below meth c Q D tyc A sa n G f t a o k ws0 rw r0 ad0 92 (i + 1) rg0 bf')
    (out : i = kv → cy_P p l e s m args below meth c Q D tyc A sa n G f t a o k ws0 rw r0 ad0 129 0 rg0 bf) : cy_P p l e s m args below meth c Q D tyc A sa n G f t a o k ws0 rw r0 ad0 92 i rg0 bf := by
  intro ws r ad H locs ls st sm hW hx hax hri hR
  obtain ⟨dc1, dc2, -, -⟩ := cy_dc182
  refine lh_ok (G := cy_gm G) (k0 := 0) (T := []) cy_pl182 F hl trivial (by omega) (cy_pw hPw sm) hck hR (fun g hg r' ad' x1 x2 x3 x4 H' locs' ls' st' hR' => ?_)
  have x1 : ai_ext (G.1.1 + 1) r r' := x1
  have x2 : ai_ext (cy_hm G.2.1).1 ad ad' := x2
  have x3 : G.1.1 + 1 ≤ g.2.2.2.1.1 := x3
  rw [hhm] at x2
  have hx' : ai_ext G.1.1 r0 r' := fun u hu => (x1 u (by omega)).trans (hx u hu)
  have hri' : r' G.1.1 = (i : Int) := (x1 _ (by omega)).trans hri
  have hE' := hR'.env
  unfold cy_e6 at hg
  simp only [Bool.and_eq_true, Bool.or_eq_true, decide_eq_true_eq] at hg
  obtain ⟨⟨h1, h2⟩, h4⟩ := hg
  have hh := hy_heq_ok h1
  obtain ⟨z1, z2⟩ := cy_z_ok h2
  rw [z1, z2]
  have hR0 := hR'
  rw [cy_g0 h2] at hR0
  have vM : ai_vx r' (G.1.1, 0) = (i : Int) := by
    show r' G.1.1 + 0 = _
    rw [hri', Int.add_zero]
  have vk' : ai_vx r' k = (kv : Int) := (hx'.vx ha.2).trans vk
  have va' : ai_vx r' a = (av : Int) := (hx'.vx ha.1).trans va
  rcases h4 with ⟨e1, ⟨e2, e3⟩, e4⟩ | ⟨e1, e2, e3, e4⟩
  · have hle := cy_lef hE' e2
    rw [vk', vM] at hle
    have eik : i = kv := by omega
    rw [Nat.eq_of_beq_eq_true e1]
    rw [e3] at hR0
    refine lh_ok (G := cy_c0 g.2.2.2) (k0 := 0) (T := []) cy_pl182 F hl trivial (by omega) (cy_pw hPw sm) e4 hR0 (fun g2 hg2 r2 ad2 y1 y2 y3 y4 H2 locs2 ls2 st2 hR2 => ?_)
    have y1 : ai_ext g.2.2.2.1.1 r' r2 := y1
    have y2 : ai_ext g.2.2.2.2.1.1 ad' ad2 := y2
    rw [hh, hhm] at y2
    obtain ⟨p1, p2, p3, r3, p4, p5, p6⟩ := cy_eh_ok hg2 hd hE0 (fun u hu => (y1 u (by omega)).trans (hx' u hu)) hR2
    rw [p1, p2, p3]
    refine out eik ws r3 ad2 H2 locs2 ls2 st2 sm hW p4 (hax.trans (x2.trans y2 (Nat.le_refl _)) (Nat.le_refl _)) ?_ p5
    have : r3 G.1.1 = r2 0 + 0 := p6 _ List.mem_cons_self
    rw [this, hR2.env.1]
    rfl
  · have hlt := cy_lef hE' e2
    rw [vk', vM] at hlt
    rw [Nat.eq_of_beq_eq_true e1]
    split at e3
    · rename_i x p0 y q0 eS
      simp only [Bool.and_eq_true] at e3
      obtain ⟨s1, s2, s3, s4⟩ := e3
      have s1 := Nat.eq_of_beq_eq_true s1
      have s2 := Nat.eq_of_beq_eq_true s2
      have s3 := ai_xeq_iff.mp s3
      subst s1 s2 s3
      have vx := cy_sum_ok hE' s4 (by omega) (by rw [va']; omega) (by rw [vM]; omega)
      rw [va', vM] at vx
      rw [eS] at hR0
      have hN0 : G.1.1 < (cy_c0 g.2.2.2).1.1 := by show G.1.1 < g.2.2.2.1.1; omega
      refine hg_iald (G := cy_c0 g.2.2.2) (q := 283) (n := 144) (j := 12 * f + av + i) (f := rg0) (b := (ai_lo32, ai_hi32)) F dc1 hR0 (by omega) (by show ai_cell g.2.2.2.2.1 283 = none; rw [hh]; exact h283) hW.2.1 (by omega) (by rw [vx]; omega) (ai_i32 _) (fun r2 st2 y1 y2 hR2 => ?_)
      have y1 : ai_ext g.2.2.2.1.1 r' r2 := y1
      refine hg_iast (G := hg_new (cy_c0 g.2.2.2) (ai_lo32, ai_hi32)) (q := 284) (n := 12) (j := i) (f := bf) F dc2 hR2 (by omega) (by show ai_cell g.2.2.2.2.1 284 = none; rw [hh]; exact h284) hW.2.2 (by omega) (by
        show r2 G.1.1 + 0 = _
        rw [y1 _ (by omega), hri', Int.add_zero]) (fun ws1 H1 locs1 st3 bf' w1 w2 w3 w4 hR3 => ?_)
      have w2 : (bf' i).toInt = r2 (cy_c0 g.2.2.2).1.1 + 0 := w2
      rw [y2, Int.add_zero] at w2
      have w2 := Int32.toInt_inj.mp w2
      have sm1 : cy_sm ws0 ws1 := sm.tr (fun x hx => w4 x (fun q => by
        rw [q] at hx
        cases hx))
      have W1 : cy_W tyc ws1 rw rg0 bf' := ⟨fun s hs => cy_ia (hW.1 s hs) (w4 _ (by omega)), cy_ia hW.2.1 (w4 _ (by omega)), w1⟩
      have hR4 := hg_cap_ok hR3 (t := G.1.1) (b := (.ofNat 0, .ofNat 11)) (by rw [cy_newN]; omega) (by
        rw [y1 _ (by omega), hri']
        exact ⟨Int.natCast_nonneg _, by show (i : Int) ≤ (11 : Nat); omega⟩)
      refine lh_ok (G := cy_c6 G g) (k0 := 0) (T := []) cy_pl182 F hl trivial (by omega) (cy_pw hPw sm1) e4 hR4 (fun g2 hg2 r4 ad4 v1 v2 v3 v4 H4 locs4 ls4 st4 hR5 => ?_)
      have v1 : ai_ext (hg_new (cy_c0 g.2.2.2) (ai_lo32, ai_hi32)).1.1 r2 r4 := v1
      rw [cy_newN] at v1
      have v1 : ai_ext (g.2.2.2.1.1 + 1) r2 r4 := v1
      have v2 : ai_ext g.2.2.2.2.1.1 ad' ad4 := v2
      rw [hh, hhm] at v2
      have hx4 : ai_ext G.1.1 r0 r4 := fun u hu => (v1 u (by omega)).trans ((y1 u (by omega)).trans (hx' u hu))
      obtain ⟨p1, p2, p3, r5, p4, p5, p6⟩ := cy_eh_ok hg2 hd hE0 hx4 hR5
      rw [p1, p2, p3]
      refine next (by omega) bf' (fun j hj => ?_) ws1 r5 ad4 H4 locs4 ls4 st4 sm1 W1 p4 (hax.trans (x2.trans v2 (Nat.le_refl _)) (Nat.le_refl _)) ?_ p5
      · by_cases ej : j = i
        · rw [ej]
          exact w2
        · rw [w3 j ej]
          exact hbf j (by omega)
      · have : r5 G.1.1 = r4 G.1.1 + 1 := p6 _ List.mem_cons_self
        rw [this, v1 _ (by omega), y1 _ (by omega), hri']
        omega
    · cases e3
set_option maxHeartbeats 2000000 in
/-- the second loop, once -/
theorem cy_s2 (F : ls_Fr p (lt_rm (n + 1) 182) s m args meth c D tyc A sa 182) (hn : 4 ≤ n) (hl : l.stackTraces = false) (hPw : ai_Pw tyc ws0) (hd : G.1.2.2 = []) (hE0 : ai_gE r0 G.1) (hhm : (cy_hm G.2.1).1 = G.2.1.1) (h283 : ai_cell (cy_hm G.2.1) 283 = none) (h284 : ai_cell (cy_hm G.2.1) 284 = none) (hck : lz_chk [] 182 [156, 164] false 129 (cy_Lm f t a o k G.1.1) [] (cy_gm G) (cy_e7 G f t a o k) = true)
    (ha : o.1 < G.1.1 ∧ k.1 < G.1.1) (va : ai_vx r0 o = (ov : Int)) (vk : ai_vx r0 k = (kv : Int)) (hak : ov + kv ≤ 12) (ht : t < 12) {i : Nat} (hi : i ≤ kv) {S0 : Nat} {bf : Nat → Int32} (hbf : ∀ j, j < kv → bf j = rg0 (S0 + j))
    (next : i < kv → cy_P p l e s m args below meth c Q D tyc A sa n G f t a o k ws0 rw r0 ad0 129 (i + 1) (va_cpy rg0 rg0 S0 (12 * t + ov) (i + 1)) bf)
    (out : i = kv → ∀ (g : ai_F) (ws : va_W) (r : Nat → Int) (ad : Nat → Nat) (H : Heap) (locs : List Loc) (ls : Array Slot) (st : List Value), cy_e8 G g = true → cy_sm ws0 ws → cy_W tyc ws rw (va_cpy rg0 rg0 S0 (12 * t + ov) kv) bf → ai_ext G.1.1 r0 r → ai_ext G.2.1.1 ad0 ad → ai_Rel D tyc A s sa ws (ct_mt 182).2.2.1 r ad g.2.1 g.2.2.1 g.2.2.2 H locs ls st → W p l e (lt_rm (n + 1) 182) s m args below meth c H locs g.2.2.2.2.2.1 g.2.2.2.2.2.2 Q (F0 m g.1 ls st)) : cy_P p l e s m args below meth c Q D tyc A sa n G f t a o k ws0 rw r0 ad0 129 i (va_cpy rg0 rg0 S0 (12 * t + ov) i) bf := by
  intro ws r ad H locs ls st sm hW hx hax hri hR
  obtain ⟨-, -, dc1, dc2⟩ := cy_dc182
  refine lh_ok (G := cy_gm G) (k0 := 0) (T := []) cy_pl182 F hl trivial (by omega) (cy_pw hPw sm) hck hR (fun g hg r' ad' x1 x2 x3 x4 H' locs' ls' st' hR' => ?_)
  have x1 : ai_ext (G.1.1 + 1) r r' := x1
  have x2 : ai_ext (cy_hm G.2.1).1 ad ad' := x2
  have x3 : G.1.1 + 1 ≤ g.2.2.2.1.1 := x3
  rw [hhm] at x2
  have hx' : ai_ext G.1.1 r0 r' := fun u hu => (x1 u (by omega)).trans (hx u hu)
  have hri' : r' G.1.1 = (i : Int) := (x1 _ (by omega)).trans hri
  have hE' := hR'.env
  unfold cy_e7 at hg
  simp only [Bool.and_eq_true, Bool.or_eq_true, decide_eq_true_eq] at hg
  obtain ⟨⟨h1, h2⟩, h4⟩ := hg
  have hh := hy_heq_ok h1
  obtain ⟨z1, z2⟩ := cy_z_ok h2
  rw [z1, z2]
  have hR0 := hR'
  rw [cy_g0 h2] at hR0
  have vM : ai_vx r' (G.1.1, 0) = (i : Int) := by
    show r' G.1.1 + 0 = _
    rw [hri', Int.add_zero]
  have vk' : ai_vx r' k = (kv : Int) := (hx'.vx ha.2).trans vk
  have va' : ai_vx r' o = (ov : Int) := (hx'.vx ha.1).trans va
  rcases h4 with ⟨e1, ⟨e2, e3⟩, e4⟩ | ⟨e1, e2, e3, e4⟩
  · have hle := cy_lef hE' e2
    rw [vk', vM] at hle
    have eik : i = kv := by omega
    rw [Nat.eq_of_beq_eq_true e1]
    rw [e3] at hR0
    refine lh_ok (G := cy_c0 g.2.2.2) (k0 := 0) (T := []) cy_pl182 F hl trivial (by omega) (cy_pw hPw sm) e4 hR0 (fun g2 hg2 r2 ad2 y1 y2 y3 y4 H2 locs2 ls2 st2 hR2 => ?_)
    have y1 : ai_ext g.2.2.2.1.1 r' r2 := y1
    have y2 : ai_ext g.2.2.2.2.1.1 ad' ad2 := y2
    rw [hh, hhm] at y2
    rw [eik] at hW
    exact out eik g2 ws r2 ad2 H2 locs2 ls2 st2 hg2 sm hW (fun u hu => (y1 u (by omega)).trans (hx' u hu)) (hax.trans (x2.trans y2 (Nat.le_refl _)) (Nat.le_refl _)) hR2
  · have hlt := cy_lef hE' e2
    rw [vk', vM] at hlt
    rw [Nat.eq_of_beq_eq_true e1]
    split at e3
    · rename_i y q0 x p0 eS
      simp only [Bool.and_eq_true] at e3
      obtain ⟨s1, s2, s3, s4⟩ := e3
      have s1 := Nat.eq_of_beq_eq_true s1
      have s2 := Nat.eq_of_beq_eq_true s2
      have s3 := ai_xeq_iff.mp s3
      subst s1 s2 s3
      have vx := cy_sum_ok hE' s4 (by omega) (by rw [va']; omega) (by rw [vM]; omega)
      rw [va', vM] at vx
      rw [eS] at hR0
      have hx1 : x.1 < g.2.2.2.1.1 := by
        obtain ⟨t1, i1, rfl, -, -, g1⟩ := hR0.stk.int
        obtain ⟨t2, rfl, -, g2⟩ := g1.ref
        obtain ⟨i3, t3, -, q1, -, -⟩ := g2.int
        exact q1
      refine hg_iald (G := cy_c0 g.2.2.2) (q := 284) (n := 12) (j := i) (f := bf) (b := (ai_lo32, ai_hi32)) F dc1 hR0 (by omega) (by show ai_cell g.2.2.2.2.1 284 = none; rw [hh]; exact h284) hW.2.2 (by omega) vM (ai_i32 _) (fun r2 st2 y1 y2 hR2 => ?_)
      have y1 : ai_ext g.2.2.2.1.1 r' r2 := y1
      refine hg_iast (G := hg_new (cy_c0 g.2.2.2) (ai_lo32, ai_hi32)) (q := 283) (n := 144) (j := 12 * t + ov + i) (f := va_cpy rg0 rg0 S0 (12 * t + ov) i) F dc2 hR2 (by omega) (by show ai_cell g.2.2.2.2.1 283 = none; rw [hh]; exact h283) hW.2.1 (by omega) (by
        rw [y1.vx hx1, vx]
        omega) (fun ws1 H1 locs1 st3 rg' w1 w2 w3 w4 hR3 => ?_)
      have w2 : (rg' (12 * t + ov + i)).toInt = r2 (cy_c0 g.2.2.2).1.1 + 0 := w2
      rw [y2, Int.add_zero] at w2
      have w2 := Int32.toInt_inj.mp w2
      have erg : rg' = va_cpy rg0 rg0 S0 (12 * t + ov) (i + 1) := funext (fun z => by
        by_cases ez : z = 12 * t + ov + i
        · rw [ez, w2, hbf i (by omega)]
          unfold va_cpy
          rw [if_pos (by omega), show 12 * t + ov + i - (12 * t + ov) = i by omega]
        · rw [w3 z ez]
          unfold va_cpy
          by_cases hz : 12 * t + ov ≤ z ∧ z < 12 * t + ov + i
          · rw [if_pos hz, if_pos (by omega)]
          · rw [if_neg hz, if_neg (by omega)])
      have sm1 : cy_sm ws0 ws1 := sm.tr (fun x hx => w4 x (fun q => by
        rw [q] at hx
        cases hx))
      have W1 : cy_W tyc ws1 rw (va_cpy rg0 rg0 S0 (12 * t + ov) (i + 1)) bf := ⟨fun s hs => cy_ia (hW.1 s hs) (w4 _ (by omega)), by rw [← erg]; exact w1, cy_ia hW.2.2 (w4 _ (by omega))⟩
      have hR4 := hg_cap_ok hR3 (t := G.1.1) (b := (.ofNat 0, .ofNat 11)) (by rw [cy_newN]; show G.1.1 < g.2.2.2.1.1 + 1; omega) (by
        rw [y1 _ (by omega), hri']
        exact ⟨Int.natCast_nonneg _, by show (i : Int) ≤ (11 : Nat); omega⟩)
      refine lh_ok (G := cy_c6 G g) (k0 := 0) (T := []) cy_pl182 F hl trivial (by omega) (cy_pw hPw sm1) e4 hR4 (fun g2 hg2 r4 ad4 v1 v2 v3 v4 H4 locs4 ls4 st4 hR5 => ?_)
      have v1 : ai_ext (hg_new (cy_c0 g.2.2.2) (ai_lo32, ai_hi32)).1.1 r2 r4 := v1
      rw [cy_newN] at v1
      have v1 : ai_ext (g.2.2.2.1.1 + 1) r2 r4 := v1
      have v2 : ai_ext g.2.2.2.2.1.1 ad' ad4 := v2
      rw [hh, hhm] at v2
      have hx4 : ai_ext G.1.1 r0 r4 := fun u hu => (v1 u (by omega)).trans ((y1 u (by omega)).trans (hx' u hu))
      obtain ⟨p1, p2, p3, r5, p4, p5, p6⟩ := cy_eh_ok hg2 hd hE0 hx4 hR5
      rw [p1, p2, p3]
      refine next (by omega) ws1 r5 ad4 H4 locs4 ls4 st4 sm1 W1 p4 (hax.trans (x2.trans v2 (Nat.le_refl _)) (Nat.le_refl _)) ?_ p5
      have : r5 G.1.1 = r4 G.1.1 + 1 := p6 _ List.mem_cons_self
      rw [this, v1 _ (by omega), y1 _ (by omega), hri']
      omega
    · cases e3
end CYL
set_option maxHeartbeats 2000000 in
theorem cy_mcopy {n : Nat} {l : Launch} {D : va_G} {tyc : Nat → ClassId} {A : Nat → Prop} {sa : ai_B} {ws : va_W} {rw : Nat → Nat → Int32} {rg bf : Nat → Int32} {r : Nat → Int} {ad : Nat → Nat} {H0 : Heap} {As : List Value} {G : ai_G} {f t : Nat} {sf st sof sot a o k : ai_X}
    (hn : 4 ≤ n) (hl : l.stackTraces = false) (hPw : ai_Pw tyc ws) (hf : f < 12) (ht : t < 12) (hck : cy_ck4 G f t sf st sof sot a o k = true) (hW : cy_W tyc ws rw rg bf) (hWd : ai_Wd D tyc A sa ws r ad (cy_c0 G) H0) (hA : ai_gF r ad G.1.1 G.2.1.1 (cy_a4 f t a o k) As) :
    vx_Met l (ct_mt 182).1 (ai_cw (ct_mt 182) :: ft_W) (lt_rm (n + 1) 182) (fun a U => a = As.toArray ∧ U.heap = H0 ∧ ai_St D tyc A sa ct_strs ft_N U ∧ ∀ q, H0.size ≤ q → A q) (cy_Q4 D tyc A sa ws rw rg r ad G f t (ai_vx r a) (ai_vx r o) (ai_vx r k) (cy_val r sf st sof sot a o k)) (fun _ _ _ => False) (lt_rm (n + 1) 182).cells (lt_rm (n + 1) 182).slots A := by
  unfold cy_ck4 at hck
  simp only [Bool.and_eq_true, decide_eq_true_eq] at hck
  obtain ⟨⟨hw, hhm, h6⟩, ⟨hd, h283, h284⟩, hpd, hseg, hckA, hckB⟩ := hck
  have hw := (xs_wh_eq (N := G.1.1) (h := cy_hm G.2.1)).symm.trans hw
  have hhm := Nat.eq_of_beq_eq_true hhm
  have h283 := Option.isNone_iff_eq_none.mp h283
  have h284 := Option.isNone_iff_eq_none.mp h284
  obtain ⟨i1, i2, i3, i4⟩ := cy_ir182
  have hE : ai_gE r G.1 := hWd.env
  refine lh_met cy_pl182 _ (cy_pd_ok hpd) hWd hA (fun p e s m below meth c ls F hret hH hR => ?_)
  refine lh_ok (G := cy_c0 G) (k0 := 0) (T := []) cy_pl182 F hl trivial (by omega) hPw hseg hR (fun g hg r' ad' x1 x2 x3 x4 H' locs' ls' st' hR' => ?_)
  have x1 : ai_ext G.1.1 r r' := x1
  have x2 : ai_ext G.2.1.1 ad ad' := x2
  unfold cy_e5 at hg
  simp only [Bool.and_eq_true, Bool.or_eq_true] at hg
  obtain ⟨⟨h2, h3⟩, h4⟩ := hg
  obtain ⟨z1, z2⟩ := cy_z_ok h2
  have hE' := hR'.env
  obtain ⟨hWd', hS', -, -⟩ := hR'.wd
  have fail : ∀ c0 : Nat, c0 ≠ 0 → fc_ir 182 g.1 = true → hy_heq g.2.2.2.2.1 (cy_hm G.2.1) = true → cy_top g c0 = true → cy_end g.2.2.2.1 sf st sof sot a o k c0 = true → W p l e (lt_rm (n + 1) 182) s m As.toArray below meth c H' locs' g.2.2.2.2.2.1 g.2.2.2.2.2.2 (vx_MQ below (cy_Q4 D tyc A sa ws rw rg r ad G f t (ai_vx r a) (ai_vx r o) (ai_vx r k) (cy_val r sf st sof sot a o k)) (fun _ _ _ => False) As.toArray s (lt_rm (n + 1) 182).cells (lt_rm (n + 1) 182).slots A) (F0 m g.1 ls' st') := fun c0 hc0 hir hq htop hend => by
    have hst := hR'.stk
    rw [cy_top_ok htop] at hst
    obtain ⟨i, rfl, hi⟩ := cy_one hE'.1 hst
    have hv : cy_val r' sf st sof sot a o k = c0 := cy_end_ok hE' hend
    rw [cy_val_x h6 x1] at hv
    refine cy_iret F cy_pl182 hret hir hS' ⟨by rw [z1]; exact Nat.zero_le _, by rw [z2]; exact Nat.zero_le _⟩ (fun T hT hF => ⟨i, ws, bf, rfl, by rw [hi, hv], cy_sm.rf, by rw [cy_rg_ne (by rw [hv]; exact hc0)]; exact hW, ?_, hF⟩)
    rw [hT]
    exact cy_back (E' := g.2.2.2.1) (h' := g.2.2.2.2.1) hw (hy_heq_ok hq) hE x1 (by rw [hhm]; exact x2) hWd'
  rcases h4 with ⟨e1, e0, e2, e3⟩ | ⟨e1, e0, e2, e3⟩ | ⟨e1, e0, e2, e3⟩ | ⟨e1, e3, e4, e5⟩
  · exact fail 1 (by omega) (by rw [Nat.eq_of_beq_eq_true e1]; exact i1) e0 e2 e3
  · exact fail 2 (by omega) (by rw [Nat.eq_of_beq_eq_true e1]; exact i2) e0 e2 e3
  · exact fail 3 (by omega) (by rw [Nat.eq_of_beq_eq_true e1]; exact i3) e0 e2 e3
  · have hv : cy_val r' sf st sof sot a o k = 0 := cy_end_ok hE' e3
    have hv0 : cy_val r sf st sof sot a o k = 0 := (cy_val_x h6 x1).symm.trans hv
    obtain ⟨l1, l2, l3, l4, l5, l6, l7⟩ := cy_six_ok h6
    obtain ⟨⟨q1, q2, q3, q4⟩, q5, -, q7, q8⟩ := cy_code0 hv0
    have b1 : ai_vx r sf ≤ 12 := by
      rw [← x1.vx l1]
      exact cy_hi_ok hE' (Nat.lt_of_lt_of_le l1 x3) e4
    have b2 : ai_vx r st ≤ 12 := by
      rw [← x1.vx l2]
      exact cy_hi_ok hE' (Nat.lt_of_lt_of_le l2 x3) e5
    obtain ⟨av, hav⟩ : ∃ av : Nat, ai_vx r a = (av : Int) := ⟨(ai_vx r a).toNat, by omega⟩
    obtain ⟨ov, hov⟩ : ∃ ov : Nat, ai_vx r o = (ov : Int) := ⟨(ai_vx r o).toNat, by omega⟩
    obtain ⟨kv, hkv⟩ : ∃ kv : Nat, ai_vx r k = (kv : Int) := ⟨(ai_vx r k).toNat, by omega⟩
    have hgoal : cy_rg rg f t (ai_vx r a) (ai_vx r o) (ai_vx r k) (cy_val r sf st sof sot a o k) = va_cpy rg rg (12 * f + av) (12 * t + ov) kv := by
      rw [hv0, hav, hov, hkv]
      exact if_pos rfl
    have loop2 : ∀ (bf2 : Nat → Int32), (∀ j, j < kv → bf2 j = rg (12 * f + av + j)) → ∀ d i, i + d = kv → cy_P p l e s m As.toArray below meth c (vx_MQ below (cy_Q4 D tyc A sa ws rw rg r ad G f t (ai_vx r a) (ai_vx r o) (ai_vx r k) (cy_val r sf st sof sot a o k)) (fun _ _ _ => False) As.toArray s (lt_rm (n + 1) 182).cells (lt_rm (n + 1) 182).slots A) D tyc A sa n G f t a o k ws rw r ad 129 i (va_cpy rg rg (12 * f + av) (12 * t + ov) i) bf2 := by
      intro bf2 hbf2
      have out : ∀ (g : ai_F) (ws1 : va_W) (r1 : Nat → Int) (ad1 : Nat → Nat) (H : Heap) (locs : List Loc) (ls : Array Slot) (st0 : List Value), cy_e8 G g = true → cy_sm ws ws1 → cy_W tyc ws1 rw (va_cpy rg rg (12 * f + av) (12 * t + ov) kv) bf2 → ai_ext G.1.1 r r1 → ai_ext G.2.1.1 ad ad1 → ai_Rel D tyc A s sa ws1 (ct_mt 182).2.2.1 r1 ad1 g.2.1 g.2.2.1 g.2.2.2 H locs ls st0 → W p l e (lt_rm (n + 1) 182) s m As.toArray below meth c H locs g.2.2.2.2.2.1 g.2.2.2.2.2.2 (vx_MQ below (cy_Q4 D tyc A sa ws rw rg r ad G f t (ai_vx r a) (ai_vx r o) (ai_vx r k) (cy_val r sf st sof sot a o k)) (fun _ _ _ => False) As.toArray s (lt_rm (n + 1) 182).cells (lt_rm (n + 1) 182).slots A) (F0 m g.1 ls st0) := by
        intro g ws1 r1 ad1 H locs ls st0 he8 sm1 W1 xr xa hR1
        unfold cy_e8 at he8
        simp only [Bool.and_eq_true] at he8
        obtain ⟨f1, f2, f3, f4⟩ := he8
        obtain ⟨z3, z4⟩ := cy_z_ok f4
        have hst := hR1.stk
        rw [cy_top_ok f2] at hst
        obtain ⟨i, rfl, hi⟩ := cy_one hR1.env.1 hst
        obtain ⟨hWd3, hS3, -, -⟩ := hR1.wd
        refine cy_iret F cy_pl182 hret (by rw [Nat.eq_of_beq_eq_true f1]; exact i4) hS3 ⟨by rw [z3]; exact Nat.zero_le _, by rw [z4]; exact Nat.zero_le _⟩ (fun T hT hF => ⟨i, ws1, bf2, rfl, by rw [hi, hv0], sm1, by rw [hgoal]; exact W1, ?_, hF⟩)
        rw [hT]
        exact cy_back (E' := g.2.2.2.1) (h' := g.2.2.2.2.1) hw (hy_heq_ok f3) hE xr (by rw [hhm]; exact xa) hWd3
      intro d
      induction d with
      | zero => exact fun i hi => cy_s2 F hn hl hPw hd hE hhm h283 h284 hckB ⟨l6, l7⟩ hov hkv (by omega) ht (by omega) hbf2 (fun h => absurd h (by omega)) (fun _ => out)
      | succ d ih => exact fun i hi => cy_s2 F hn hl hPw hd hE hhm h283 h284 hckB ⟨l6, l7⟩ hov hkv (by omega) ht (by omega) hbf2 (fun _ => ih (i + 1) (by omega)) (fun _ => out)
    have go2 : ∀ bf2 : Nat → Int32, (∀ j, j < kv → bf2 j = rg (12 * f + av + j)) → cy_P p l e s m As.toArray below meth c (vx_MQ below (cy_Q4 D tyc A sa ws rw rg r ad G f t (ai_vx r a) (ai_vx r o) (ai_vx r k) (cy_val r sf st sof sot a o k)) (fun _ _ _ => False) As.toArray s (lt_rm (n + 1) 182).cells (lt_rm (n + 1) 182).slots A) D tyc A sa n G f t a o k ws rw r ad 129 0 rg bf2 := fun bf2 hbf2 => by
      have e0 : va_cpy rg rg (12 * f + av) (12 * t + ov) 0 = rg := funext (fun z => by
        unfold va_cpy
        rw [if_neg (by omega)])
      have := loop2 bf2 hbf2 kv 0 (by omega)
      rw [e0] at this
      exact this
    have loop1 : ∀ d i (bf2 : Nat → Int32), i + d = kv → (∀ j, j < i → bf2 j = rg (12 * f + av + j)) → cy_P p l e s m As.toArray below meth c (vx_MQ below (cy_Q4 D tyc A sa ws rw rg r ad G f t (ai_vx r a) (ai_vx r o) (ai_vx r k) (cy_val r sf st sof sot a o k)) (fun _ _ _ => False) As.toArray s (lt_rm (n + 1) 182).cells (lt_rm (n + 1) 182).slots A) D tyc A sa n G f t a o k ws rw r ad 92 i rg bf2 := by
      intro d
      induction d with
      | zero => exact fun i bf2 hi hbf2 => cy_s1 F hn hl hPw hd hE hhm h283 h284 hckA ⟨l5, l7⟩ hav hkv (by omega) hf (by omega) hbf2 (fun h => absurd h (by omega)) (fun h => go2 bf2 (fun j hj => hbf2 j (by omega)))
      | succ d ih => exact fun i bf2 hi hbf2 => cy_s1 F hn hl hPw hd hE hhm h283 h284 hckA ⟨l5, l7⟩ hav hkv (by omega) hf (by omega) hbf2 (fun _ bf3 hbf3 => ih (i + 1) bf3 (by omega) hbf3) (fun h => go2 bf2 (fun j hj => hbf2 j (by omega)))
    obtain ⟨p1, p2, p3, r2, p4, p5, p6⟩ := cy_eh_ok e1 hd hE x1 hR'
    rw [p1, p2, p3]
    refine loop1 kv 0 bf (by omega) (fun j hj => absurd hj (by omega)) ws r2 ad' H' locs' ls' st' cy_sm.rf hW p4 x2 ?_ p5
    have : r2 G.1.1 = r' 0 + 0 := p6 _ List.mem_cons_self
    rw [this, hE'.1]
    rfl
/-! numbers and definitions more; arrays set aside and taken back -/
noncomputable def hk_df (G : ai_G) (d : ai_D) : ai_G := ((G.1.1, G.1.2.1, d :: G.1.2.2), G.2)
section HK
variable {s : State} {D : va_G} {tyc : Nat → ClassId} {A : Nat → Prop} {sa : ai_B} {ws ws0 : va_W} {nL : Nat}
variable {r : Nat → Int} {ad : Nat → Nat} {L S : List ai_V} {G : ai_G} {E : ai_E} {h h' : ai_H} {c1 s1 : Nat} {H : Heap} {locs : List Loc} {ls : Array Slot} {st : List Value}
theorem hk_add (hR : ai_Rel D tyc A s sa ws nL r ad L S G H locs ls st) {q : Int × Int} {x : Int} (hq : q.1 ≤ x ∧ x ≤ q.2) (hs : ai_small x) : ∃ r', ai_ext G.1.1 r r' ∧ r' G.1.1 = x ∧ ai_Rel D tyc A s sa ws nL r' ad L S (hg_new G q) H locs ls st := by
  have hE := hR.env
  cases en : ai_new G.1 q with
  | mk z E' =>
    obtain ⟨r', g1, g2, g3, g4, g5⟩ := ai_new_ok hE hq hs en
    have ez : z = (G.1.1, 0) ∧ E'.1 = G.1.1 + 1 := by
      obtain ⟨⟨N, lb, ds⟩, G2⟩ := G
      cases en
      exact ⟨rfl, rfl⟩
    obtain ⟨rfl, hE1⟩ := ez
    have e0 : r' G.1.1 = x := by
      have : r' G.1.1 + 0 = x := g5
      omega
    refine ⟨r', g1, e0, ?_⟩
    have := hR.re (E' := E') (r' := r') (S' := S) (st' := st) g1 g2 g3 (hR.stk.mono g1 ai_ext.rfl' g2 (Nat.le_refl _))
    unfold hg_new
    rw [en]
    exact this
theorem hk_adf (hR : ai_Rel D tyc A s sa ws nL r ad L S G H locs ls st) {d : ai_D} (h : d.2.1 < G.1.1 ∧ d.2.2.1.1 < G.1.1 ∧ d.2.2.2.1 < G.1.1 ∧ r d.2.1 = ai_op d.1 (ai_vx r d.2.2.1) (ai_vx r d.2.2.2)) : ai_Rel D tyc A s sa ws nL r ad L S (hk_df G d) H locs ls st := by
  have hE := hR.env
  exact hR.re (E' := (hk_df G d).1) (r' := r) (S' := S) (st' := st) ai_ext.rfl' (Nat.le_refl _) ⟨hE.1, hE.2.1, hE.2.2.1, hE.2.2.2.1, fun q hq => by
    rcases List.mem_cons.mp hq with rfl | hq
    · exact h
    · exact hE.2.2.2.2 q hq⟩ hR.stk
/-- a fact: x is no more than y -/
theorem hk_le (hR : ai_Rel D tyc A s sa ws nL r ad L S G H locs ls st) {x y : ai_X} (h : x.1 < G.1.1 ∧ y.1 < G.1.1) (hv : ai_vx r x ≤ ai_vx r y) : ai_Rel D tyc A s sa ws nL r ad L S (hk_df G (32, 0, x, y)) H locs ls st :=
  hk_adf hR ⟨hR.env.2.1, h.1, h.2, by
    have q : ai_le (ai_vx r x) (ai_vx r y) = true := ai_le_iff.mpr hv
    show r 0 = (match ai_le (ai_vx r x) (ai_vx r y) with | true => 0 | false => 1)
    rw [q, hR.env.1]⟩
theorem gh_drop (hR : ai_Rel D tyc A s sa ws0 nL r ad L S (E, h, c1, s1) H locs ls st) (hn : h'.1 = h.1) (hc : ∀ k, k < h.1 → ∀ d, ai_cell h' k = some d → ai_cell h k = some d) :
    ∃ ws, (∀ k, k + 16 < h.1 → ai_cell h (k + 16) = none → ws[k]? = ws0[k]?) ∧ (∀ q, 16 ≤ q → q < h.1 → ∀ d, ai_cell h q = some d → ∃ x, ws[q - 16]? = some (ad q, x) ∧ ai_gC tyc r ad E.1 h.1 d x) ∧ ai_Rel D tyc A s sa ws nL r ad L S (E, h', c1, s1) H locs ls st := by
  obtain ⟨n, T⟩ := h
  obtain ⟨n', T'⟩ := h'
  have hn : n' = n := hn
  subst hn
  obtain ⟨ws, hP, hD, hS, hE, hH, hO, hsa, hL, hSt⟩ := hR
  have h16 : 16 ≤ n' := hH.1.1
  refine ⟨ws, fun k hk hd => hH.2.2.2 k hk hd, fun q hq hqn d hd => ?_, ws, hP, hD, hS, hE, ⟨hH.1, hH.2.1, fun k hk d hd => hH.2.2.1 k hk d (hc _ hk d hd), fun k hk hd => rfl⟩, fun k hk d hd => hO k hk d (hc k (by show k < n'; omega) d hd), hsa, hL, hSt⟩
  obtain ⟨x, hw, hg⟩ := hH.at hq hqn hd
  exact ⟨x, hw, hg⟩
theorem gh_back (hR : ai_Rel D tyc A s sa ws nL r ad L S (E, h', c1, s1) H locs ls st) (hn : h'.1 = h.1) (hc : ∀ k, k < h.1 → ∀ d, ai_cell h k = some d → ai_cell h' k = some d ∨ (16 ≤ k ∧ ai_cell h' k = none ∧ ∃ a x, ws[k - 16]? = some (a, x) ∧ ai_gC tyc r ad E.1 h.1 d x)) (hz : ∀ k, k < h.1 → ai_cell h k = none → ai_cell h' k = none) : ai_Rel D tyc A s sa ws nL r ad L S (E, h, c1, s1) H locs ls st := by
  obtain ⟨n, T⟩ := h
  obtain ⟨n', T'⟩ := h'
  have hn : n' = n := hn
  subst hn
  obtain ⟨ws2, hP, hD, hS, hE, hH, hO, hsa, hL, hSt⟩ := hR
  have h16 : 16 ≤ n' := hH.1.1
  refine ⟨ws2, hP, hD, hS, hE, ⟨hH.1, hH.2.1, fun k hk d hd => ?_, fun k hk hd => hH.2.2.2 k hk (hz _ hk hd)⟩, fun k hk d hd => ?_, hsa, hL, hSt⟩
  · rcases hc (k + 16) hk d hd with g | ⟨-, g2, a, x, g3, g4⟩
    · exact hH.2.2.1 k hk d g
    · have g5 : ws2[k]? = some (a, x) := by
        rw [hH.2.2.2 k hk g2]
        rw [show k + 16 - 16 = k by omega] at g3
        exact g3
      refine ⟨x, ?_, g4⟩
      rw [g5, show a = ad (k + 16) from hH.2.1 _ _ g5]
  · rcases hc k (by show k < n'; omega) d hd with g | ⟨g1, -⟩
    · exact hO k hk d g
    · omega
end HK
