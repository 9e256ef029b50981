/-! PURE TRANSITIONS (3): segments, arrays that the domain leaves alone, calls, ends; all as closure of a predicate of places, numbers, arrays -/
abbrev pt_X : Type := List (Nat × Nat × Int)
abbrev pt_E : Type := (Nat × Nat × Nat) × (List ai_V × List ai_V) × List (Nat × pt_X) × List (Nat × pt_X × pt_X)
/-- a system: numbers, cells, arrays left alone (cell, length, type), the first number of the locals -/
abbrev pt_Y : Type := ai_E × ai_H × List (Nat × Nat × Nat) × Nat
abbrev pt_P : Type := (Nat × Nat × Nat) → List ai_V → List ai_V → (Nat → Int) → (Nat → Nat → Int) → Prop
noncomputable def pt_f (E0 : ai_E) (h0 : ai_H) (f : ai_F) (G : ai_G) (g : pt_E) : Bool := (Nat.beq f.1 g.1.1 && (Nat.beq f.2.2.2.2.2.1 g.1.2.1 && Nat.beq f.2.2.2.2.2.2 g.1.2.2)) && ((g.2.2.2.all (pt_gc E0.1 G.1)) && (match pt_ws E0.1 G.1 g.2.2.1 with
  | some W => pt_go E0 h0 g.2.1.1 g.2.1.2 G.1 G.2.1 f.2.1 f.2.2.1 W
  | none => false))
noncomputable def pt_fs (E0 : ai_E) (h0 : ai_H) (C : List Nat) (Es : List pt_E) (f : ai_F) : Bool := match so_G C f.2.2.2 with
  | some G => Es.any (pt_f E0 h0 f G)
  | none => false
noncomputable def pt_G (E0 : ai_E) (h0 : ai_H) (k : Nat × Nat × Nat) (sp : List (Nat × Int)) (cp : List (Nat × Int × Int)) (le : List (ai_X × ai_X)) : ai_G := le.foldl (fun G q => hk_df G (32, 0, q.1, q.2)) (cp.foldl (fun G q => hg_cap G q.1 q.2) (E0, sp.foldl (fun h q => sp_h q.1 q.2 h) h0, k.2.1, k.2.2))
noncomputable def pt_row (Y : pt_Y) (mi : Nat) (stop : List Nat) (skip : Bool) (k : Nat × Nat × Nat) (L S : List ai_V) (sp : List (Nat × Int)) (cp : List (Nat × Int × Int)) (le : List (ai_X × ai_X)) (C : List Nat) (Es : List pt_E) : Bool := (cp.all (fun q => Nat.blt q.1 Y.1.1) && le.all (fun q => Nat.blt q.1.1 Y.1.1 && Nat.blt q.2.1 Y.1.1)) && lz_chk [] mi stop skip k.1 L S (pt_G Y.1 Y.2.1 k sp cp le) (pt_fs Y.1 Y.2.1 C Es)
noncomputable def pt_gs (r : Nat → Int) : List (Nat × pt_X × pt_X) → Prop
  | [] => True
  | g :: l => pt_g r g ∧ pt_gs r l
noncomputable def pt_ks (P : pt_P) (r : Nat → Int) (M : Nat → Nat → Int) : List pt_E → Prop
  | [] => True
  | g :: Es => (pt_gs r g.2.2.2 → P g.1 g.2.1.1 g.2.1.2 (pt_up r g.2.2.1) M) ∧ pt_ks P r M Es
theorem pt_gs_of {r : Nat → Int} : ∀ {l : List (Nat × pt_X × pt_X)}, (∀ x ∈ l, pt_g r x) → pt_gs r l
  | [], _ => trivial
  | g :: l, h => ⟨h g List.mem_cons_self, pt_gs_of (fun x hx => h x (List.mem_cons_of_mem _ hx))⟩
theorem pt_ks_get {P : pt_P} {r : Nat → Int} {M : Nat → Nat → Int} {g : pt_E} : ∀ {Es : List pt_E}, pt_ks P r M Es → g ∈ Es → pt_gs r g.2.2.2 → P g.1 g.2.1.1 g.2.1.2 (pt_up r g.2.2.1) M
  | _ :: Es, h, hg => by
    rcases List.mem_cons.mp hg with rfl | hg
    · exact h.1
    · exact pt_ks_get h.2 hg
noncomputable def pt_asm (r : Nat → Int) (sp : List (Nat × Int)) (cp : List (Nat × Int × Int)) (le : List (ai_X × ai_X)) : Prop := (∀ q ∈ sp, r q.1 = q.2) ∧ (∀ q ∈ cp, q.2.1 ≤ r q.1 ∧ r q.1 ≤ q.2.2) ∧ ∀ q ∈ le, ai_vx r q.1 ≤ ai_vx r q.2
noncomputable def pt_sys (Y : pt_Y) : Prop := pt_un Y.1 = true ∧ pt_wf Y.1.1 Y.2.1 = true
noncomputable def pt_A (tyc : Nat → ClassId) (ws : va_W) (q n ty : Nat) (g : Nat → Int) : Prop := match ty with
  | 1 => ∃ f, hg_la tyc ws q n f ∧ ∀ j, j < n → (f j).toInt = g j
  | _ => ∃ f, hg_ia tyc ws q n f ∧ ∀ j, j < n → (f j).toInt = g j
noncomputable def pt_M (tyc : Nat → ClassId) (Gh : List (Nat × Nat × Nat)) (ws : va_W) (M : Nat → Nat → Int) : Prop := ∀ q ∈ Gh, pt_A tyc ws q.1 q.2.1 q.2.2 (M q.1)
noncomputable def pt_gh (Gh : List (Nat × Nat × Nat)) (ws ws' : va_W) : Prop := ∀ x, (∀ q ∈ Gh, q.1 ≠ x + 16) → ws'[x]? = ws[x]?
theorem pt_gh.rf {Gh : List (Nat × Nat × Nat)} {ws : va_W} : pt_gh Gh ws ws := fun _ _ => rfl
theorem pt_gh.tr {Gh : List (Nat × Nat × Nat)} {a b c : va_W} (h : pt_gh Gh a b) (g : pt_gh Gh b c) : pt_gh Gh a c := fun x hx => (g x hx).trans (h x hx)
/-- what is returned: 0 nothing, 1 an int, 2 a long -/
noncomputable def pt_out (rt : Nat) (u : Outcome) (v : Option Int) : Prop := match rt with
  | 0 => u = .returned none ∧ v = none
  | 1 => ∃ i : Int32, u = .returned (some (.int i)) ∧ v = some i.toInt
  | _ => ∃ i : Int64, u = .returned (some (.long i)) ∧ v = some i.toInt
noncomputable def pt_Q (D : va_G) (tyc : Nat → ClassId) (A : Nat → Prop) (sa : ai_B) (ws : va_W) (ad : Nat → Nat) (Y : pt_Y) (Z : (Nat → Int) → (Nat → Nat → Int) → Option Int → Prop) (rt : Nat) : Array Value → State → Outcome → State → Prop :=
  fun _ s u T => ∃ v r2 M2 ws2, pt_out rt u v ∧ Z r2 M2 v ∧ ai_Pw tyc ws2 ∧ pt_gh Y.2.2.1 ws ws2 ∧ pt_M tyc Y.2.2.1 ws2 M2 ∧ ai_Wd D tyc A sa ws2 r2 ad (Y.1, Y.2.1, 0, 0) T.heap ∧ va_F A s T
/-- a method's contract -/
noncomputable def pt_Met (n mj : Nat) (Y : pt_Y) (aa : List ai_V) (Pre : (Nat → Int) → (Nat → Nat → Int) → Prop) (Post : (Nat → Int) → (Nat → Nat → Int) → (Nat → Int) → (Nat → Nat → Int) → Option Int → Prop) (rt : Nat) : Prop :=
  ∀ (l : Launch) (D : va_G) (tyc : Nat → ClassId) (A : Nat → Prop) (sa : ai_B), l.stackTraces = false → ∀ (ws : va_W) (r : Nat → Int) (ad : Nat → Nat) (H0 : Heap) (As : List Value) (M : Nat → Nat → Int), ai_Pw tyc ws → pt_M tyc Y.2.2.1 ws M → Pre r M → ai_Wd D tyc A sa ws r ad (Y.1, Y.2.1, 0, 0) H0 → ai_gF r ad Y.1.1 336 aa As →
    vx_Met l (ct_mt mj).1 (ai_cw (ct_mt mj) :: ft_W) (lt_rm n mj) (fun a U => a = As.toArray ∧ U.heap = H0 ∧ ai_St D tyc A sa ct_strs ft_N U ∧ ∀ q, H0.size ≤ q → A q) (pt_Q D tyc A sa ws ad Y (Post r M) rt) (fun _ _ _ => False) (lt_rm n mj).cells (lt_rm n mj).slots A
/-- symbols of cells, locals -/
noncomputable def pt_yV (p : Nat → Bool) (b : ai_V) : Bool := match b with
  | .inl x => p x.1
  | .inr (.inl x) => p x.1
  | .inr (.inr _) => true
noncomputable def pt_yC (p : Nat → Bool) (d : ai_C) : Bool := match d with
  | .inl (_, fs) => fs.all (pt_yV p)
  | .inr (.inl (_, _, _, _, l)) => l.all (fun q => p q.1.1 && p q.2.1)
  | .inr (.inr _) => true
noncomputable def pt_yH (p : Nat → Bool) (h : ai_H) : Bool := (List.range 336).all (fun k => match ai_cell h k with
  | none => true
  | some d => pt_yC p d)
section PTC
variable {r r2 : Nat → Int} {ad : Nat → Nat} {N n nL : Nat} {p : Nat → Bool} {tyc : Nat → ClassId}
theorem pt_yx (e : ∀ t, p t = true → r2 t = r t) {x : ai_X} (h : p x.1 = true) : ai_vx r2 x = ai_vx r x := by
  show r2 x.1 + x.2 = r x.1 + x.2
  rw [e _ h]
theorem pt_gV2 (e : ∀ t, p t = true → r2 t = r t) {b : ai_V} {v : Value} (h : pt_yV p b = true) (g : ai_gV r ad N n b v) : ai_gV r2 ad N n b v := by
  rcases b with x | x | _ | _ | q
  · obtain ⟨h1, i, h2, h3⟩ := g
    exact ⟨h1, i, h2, h3.trans (pt_yx e h).symm⟩
  · obtain ⟨h1, i, h2, h3⟩ := g
    exact ⟨h1, i, h2, h3.trans (pt_yx e h).symm⟩
  · trivial
  · exact g
  · exact g
theorem pt_gF2 (e : ∀ t, p t = true → r2 t = r t) : ∀ {S : List ai_V} {st : List Value}, S.all (pt_yV p) = true → ai_gF r ad N n S st → ai_gF r2 ad N n S st
  | [], [], _, _ => trivial
  | [], _ :: _, _, g => g.elim
  | _ :: _, [], _, g => g.elim
  | a :: S, v :: st, h, g => by
    rw [List.all_cons, Bool.and_eq_true] at h
    exact ⟨pt_gV2 e h.1 g.1, pt_gF2 e h.2 g.2⟩
theorem pt_lget : ∀ {L : List ai_V} {i : Nat}, L.all (pt_yV p) = true → pt_yV p (ai_lget L i) = true
  | [], _, _ => rfl
  | _ :: _, 0, h => by
    rw [List.all_cons, Bool.and_eq_true] at h
    exact h.1
  | _ :: _, i + 1, h => by
    rw [List.all_cons, Bool.and_eq_true] at h
    exact pt_lget (i := i) h.2
theorem pt_gL2 (e : ∀ t, p t = true → r2 t = r t) {L : List ai_V} {ls : Array Slot} (h : L.all (pt_yV p) = true) (g : ai_gL r ad N n nL L ls) : ai_gL r2 ad N n nL L ls := by
  obtain ⟨g1, g2, g3, g4⟩ := g
  refine ⟨g1, g2, g3, fun i hi => ?_⟩
  obtain ⟨v, h1, h2⟩ := g4 i hi
  exact ⟨v, h1, pt_gV2 e (pt_lget h) h2⟩
theorem pt_ov {lo hi : Int} {j : Nat} {v : Int} : ∀ {l : List (ai_X × ai_X)}, (∀ q ∈ l, ai_vx r2 q.1 = ai_vx r q.1 ∧ ai_vx r2 q.2 = ai_vx r q.2) → ai_ov r lo hi l j v → ai_ov r2 lo hi l j v
  | [], _, g => g
  | (i, x) :: l, hl, g => by
    have h1 := hl _ List.mem_cons_self
    unfold ai_ov at g ⊢
    rw [h1.1, h1.2]
    exact ⟨g.1, fun q => pt_ov (fun z hz => hl z (List.mem_cons_of_mem _ hz)) (g.2 q)⟩
theorem pt_gC {d : ai_C} {x : va_E} (h : pt_yC p d = true) (e : ∀ t, p t = true → r2 t = r t) (g : ai_gC tyc r ad N n d x) : ai_gC tyc r2 ad N n d x := by
  rcases d with ⟨ci, fs⟩ | ⟨ty, m, lo, hi, l⟩ | ⟨ty, l⟩
  · obtain ⟨vs, h1, h2⟩ := g
    exact ⟨vs, h1, pt_gF2 e h h2⟩
  · have hl : ∀ q ∈ l, ai_vx r2 q.1 = ai_vx r q.1 ∧ ai_vx r2 q.2 = ai_vx r q.2 := fun q hq => by
      have hb := List.all_eq_true.mp (show l.all (fun q => p q.1.1 && p q.2.1) = true from h) q hq
      rw [Bool.and_eq_true] at hb
      exact ⟨pt_yx e hb.1, pt_yx e hb.2⟩
    rcases g with ⟨h1, f, h2, h3⟩ | ⟨h1, f, h2, h3⟩
    · exact Or.inl ⟨h1, f, h2, h3.1, fun j hj => pt_ov hl (h3.2 j hj)⟩
    · exact Or.inr ⟨h1, f, h2, h3.1, fun j hj => pt_ov hl (h3.2 j hj)⟩
  · exact g
end PTC
section PTD
variable {s : State} {D : va_G} {tyc : Nat → ClassId} {A : Nat → Prop} {sa : ai_B} {ws : va_W} {nL : Nat}
variable {r r2 : Nat → Int} {ad ad' : Nat → Nat} {L L2 S S2 : List ai_V} {E0 : ai_E} {h0 : ai_H} {c1 s1 c2 s2 : Nat} {H : Heap} {locs : List Loc} {ls : Array Slot} {st : List Value} {p : Nat → Bool}
/-- the world under other numbers that are the same in its cells -/
theorem pt_wd (hwf : pt_wf E0.1 h0 = true) (hp : pt_yH p h0 = true) (e : ∀ t, p t = true → r2 t = r t) (hE2 : ai_gE r2 E0) (g : ai_Wd D tyc A sa ws r ad (E0, h0, c1, s1) H) : ai_Wd D tyc A sa ws r2 ad (E0, h0, c2, s2) H := by
  obtain ⟨ws1, hP, hD, hE, hH, hO, hsa⟩ := g
  have h336 : h0.1 = 336 := by
    unfold pt_wf at hwf
    simp only [Bool.and_eq_true] at hwf
    exact Nat.eq_of_beq_eq_true hwf.2.1
  refine ⟨ws1, hP, hD, hE2, ⟨hH.1, hH.2.1, fun k hk c hc => ?_, hH.2.2.2⟩, fun q hq c hc => ?_, hsa⟩
  · obtain ⟨x, x1, x2⟩ := hH.2.2.1 k hk c hc
    have hk : k + 16 < h0.1 := hk
    have hc : ai_cell h0 (k + 16) = some c := hc
    refine ⟨x, x1, pt_gC ?_ e x2⟩
    have g := List.all_eq_true.mp hp (k + 16) (List.mem_range.mpr (by omega))
    rw [hc] at g
    exact g
  · have hc : ai_cell h0 q = some c := hc
    rw [pt_no16 hwf q hq] at hc
    cases hc
theorem pt_back (hwf : pt_wf E0.1 h0 = true) (hx : ai_ext 336 ad ad') (g : ai_Wd D tyc A sa ws r ad' (E0, h0, c1, s1) H) : ai_Wd D tyc A sa ws r ad (E0, h0, c2, s2) H := by
  have hwf' := hwf
  unfold pt_wf at hwf'
  simp only [Bool.and_eq_true] at hwf'
  obtain ⟨w1, w3, -⟩ := hwf'
  rw [xs_wh_eq] at w1
  exact fn_trW w1 ai_ext.rfl' (fn_rev (by rw [Nat.eq_of_beq_eq_true w3]; exact hx)) (Nat.le_refl _) g.env g
theorem pt_sps (h16 : ∀ q, q < 16 → ai_cell h0 q = none) : ∀ {sp : List (Nat × Int)} {h : ai_H}, (∀ q, q < 16 → ai_cell h q = none) → (∀ q ∈ sp, r q.1 = q.2) → ai_Rel D tyc A s sa ws nL r ad L S (E0, h, c1, s1) H locs ls st → ai_Rel D tyc A s sa ws nL r ad L S (E0, sp.foldl (fun h q => sp_h q.1 q.2 h) h, c1, s1) H locs ls st
  | [], _, _, _, hR => hR
  | q :: sp, h, hn, hq, hR => pt_sps h16 (sp := sp) (h := sp_h q.1 q.2 h) (fun k hk => by
    rw [sp_cell, hn k hk]
    rfl) (fun z hz => hq z (List.mem_cons_of_mem _ hz)) (sp_ok (G := (E0, h, c1, s1)) hR (hq q List.mem_cons_self) hn)
theorem pt_caps {N : Nat} : ∀ {cp : List (Nat × Int × Int)} {G : ai_G}, G.1.1 = N → (∀ q ∈ cp, Nat.blt q.1 N = true) → (∀ q ∈ cp, q.2.1 ≤ r q.1 ∧ r q.1 ≤ q.2.2) → ai_Rel D tyc A s sa ws nL r ad L S G H locs ls st → ai_Rel D tyc A s sa ws nL r ad L S (cp.foldl (fun G q => hg_cap G q.1 q.2) G) H locs ls st ∧ (cp.foldl (fun G q => hg_cap G q.1 q.2) G).1.1 = N ∧ (cp.foldl (fun G q => hg_cap G q.1 q.2) G).2 = G.2
  | [], _, hN, _, _, hR => ⟨hR, hN, rfl⟩
  | q :: cp, G, hN, h1, h2, hR => pt_caps (cp := cp) (G := hg_cap G q.1 q.2) hN (fun z hz => h1 z (List.mem_cons_of_mem _ hz)) (fun z hz => h2 z (List.mem_cons_of_mem _ hz)) (hg_cap_ok hR (by rw [hN]; exact Nat.le_of_ble_eq_true (h1 q List.mem_cons_self)) (h2 q List.mem_cons_self))
theorem pt_les {N : Nat} : ∀ {le : List (ai_X × ai_X)} {G : ai_G}, G.1.1 = N → (∀ q ∈ le, (Nat.blt q.1.1 N && Nat.blt q.2.1 N) = true) → (∀ q ∈ le, ai_vx r q.1 ≤ ai_vx r q.2) → ai_Rel D tyc A s sa ws nL r ad L S G H locs ls st → ai_Rel D tyc A s sa ws nL r ad L S (le.foldl (fun G q => hk_df G (32, 0, q.1, q.2)) G) H locs ls st ∧ (le.foldl (fun G q => hk_df G (32, 0, q.1, q.2)) G).1.1 = N ∧ (le.foldl (fun G q => hk_df G (32, 0, q.1, q.2)) G).2 = G.2
  | [], _, hN, _, _, hR => ⟨hR, hN, rfl⟩
  | q :: le, G, hN, h1, h2, hR => pt_les (le := le) (G := hk_df G (32, 0, q.1, q.2)) hN (fun z hz => h1 z (List.mem_cons_of_mem _ hz)) (fun z hz => h2 z (List.mem_cons_of_mem _ hz)) (hk_le hR (by
      have g := h1 q List.mem_cons_self
      rw [Bool.and_eq_true] at g
      rw [hN]
      exact ⟨Nat.le_of_ble_eq_true g.1, Nat.le_of_ble_eq_true g.2⟩) (h2 q List.mem_cons_self))
theorem pt_Gn {N : Nat} : ∀ (cp : List (Nat × Int × Int)) (G : ai_G), G.1.1 = N → (cp.foldl (fun G q => hg_cap G q.1 q.2) G).1.1 = N ∧ (cp.foldl (fun G q => hg_cap G q.1 q.2) G).2 = G.2
  | [], _, hN => ⟨hN, rfl⟩
  | q :: cp, G, hN => pt_Gn cp (hg_cap G q.1 q.2) hN
theorem pt_G_ok {k : Nat × Nat × Nat} {sp : List (Nat × Int)} {cp : List (Nat × Int × Int)} {le : List (ai_X × ai_X)} (hwf : pt_wf E0.1 h0 = true) (hcp : cp.all (fun q => Nat.blt q.1 E0.1) = true) (hle : le.all (fun q => Nat.blt q.1.1 E0.1 && Nat.blt q.2.1 E0.1) = true) (ha : pt_asm r sp cp le) (hR : ai_Rel D tyc A s sa ws nL r ad L S (E0, h0, k.2.1, k.2.2) H locs ls st) :
    ai_Rel D tyc A s sa ws nL r ad L S (pt_G E0 h0 k sp cp le) H locs ls st ∧ (pt_G E0 h0 k sp cp le).1.1 = E0.1 ∧ (pt_G E0 h0 k sp cp le).2.1.1 = 336 ∧ (pt_G E0 h0 k sp cp le).2.2 = k.2 := by
  have h16 := pt_no16 hwf
  have h336 : h0.1 = 336 := by
    unfold pt_wf at hwf
    simp only [Bool.and_eq_true] at hwf
    exact Nat.eq_of_beq_eq_true hwf.2.1
  have R1 := pt_sps h16 h16 ha.1 hR
  obtain ⟨R2, n2, e2⟩ := pt_caps (N := E0.1) (G := (E0, sp.foldl (fun h q => sp_h q.1 q.2 h) h0, k.2.1, k.2.2)) rfl (List.all_eq_true.mp hcp) ha.2.1 R1
  obtain ⟨R3, n3, e3⟩ := pt_les n2 (List.all_eq_true.mp hle) ha.2.2 R2
  have hs : ∀ (sp : List (Nat × Int)) (h : ai_H), (sp.foldl (fun h q => sp_h q.1 q.2 h) h).1 = h.1 := fun sp => by
    induction sp with
    | nil => intro h; rfl
    | cons q sp ih =>
      intro h
      show (sp.foldl (fun h q => sp_h q.1 q.2 h) (sp_h q.1 q.2 h)).1 = h.1
      rw [ih]
      rfl
  refine ⟨R3, n3, ?_, ?_⟩
  · have e4 := congrArg (fun z => z.1.1) (e3.trans e2)
    refine Eq.trans e4 ?_
    show (sp.foldl (fun h q => sp_h q.1 q.2 h) h0).1 = 336
    rw [hs, h336]
  · exact congrArg (fun z => z.2) (e3.trans e2)
end PTD
/-- what stands behind a place, on the machine -/
noncomputable def pt_W (p : Program) (l : Launch) (e : Env) (s : State) (m : MethodId) (args : Array Value) (below : List Frame) (meth : Method) (c : Code) (Q : State → Prop) (D : va_G) (tyc : Nat → ClassId) (A : Nat → Prop) (sa : ai_B) (ws0 : va_W) (ad0 : Nat → Nat) (n mi : Nat) (Y : pt_Y) : pt_P := fun k L S r M =>
  ∀ (ws : va_W) (ad : Nat → Nat) (H : Heap) (locs : List Loc) (ls : Array Slot) (st : List Value), ai_Pw tyc ws → pt_gh Y.2.2.1 ws0 ws → pt_M tyc Y.2.2.1 ws M → ai_ext 336 ad0 ad → ai_Rel D tyc A s sa ws (ct_mt mi).2.2.1 r ad L S (Y.1, Y.2.1, k.2.1, k.2.2) H locs ls st → W p l e (lt_rm (n + 1) mi) s m args below meth c H locs k.2.1 k.2.2 Q (F0 m k.1 ls st)
noncomputable def pt_sk (mi pc mj : Nat) (S aa S' : List ai_V) : Bool := match ls_code mi pc with
  | some (i, len, a, b) => (match i with
    | .invokestatic _ => Nat.beq a mj && (Nat.beq len 3 && (match ai_call mj b (pc + 3) S with
      | some (.inr (.inl (m', aa', S2, p'))) => Nat.beq m' mj && (decide (aa' = aa) && (decide (S2 = S') && Nat.beq p' (pc + 3)))
      | _ => false))
    | _ => false)
  | none => false
theorem pt_sk_ok {mi pc mj : Nat} {S aa S' : List ai_V} (q : pt_sk mi pc mj S aa S' = true) : ∃ idx b, ls_code mi pc = some (.invokestatic idx, 3, mj, b) ∧ ai_call mj b (pc + 3) S = some (.inr (.inl (mj, aa, S', pc + 3))) := by
  unfold pt_sk at q
  split at q
  · rename_i i len a b ec
    split at q
    · rename_i idx
      simp only [Bool.and_eq_true] at q
      obtain ⟨h2, h3, h4⟩ := q
      have h2 := Nat.eq_of_beq_eq_true h2
      have h3 := Nat.eq_of_beq_eq_true h3
      subst h2 h3
      split at h4
      · rename_i m' aa' S2 p' ev
        simp only [Bool.and_eq_true, decide_eq_true_eq] at h4
        obtain ⟨k1, k2, k3, k4⟩ := h4
        have k1 := Nat.eq_of_beq_eq_true k1
        have k4 := Nat.eq_of_beq_eq_true k4
        subst k1 k2 k3 k4
        exact ⟨idx, b, ec, ev⟩
      · cases h4
    · cases q
  · cases q
/-- which instruction: 1 iaload, 2 iastore, 3 laload, 4 lastore, 5 a return of an int, 6 of a long, 7 of nothing, 8 of a boolean -/
noncomputable def pt_is (o mi pc : Nat) : Bool := match ls_code mi pc with
  | some (i, len, a, _) => Nat.beq len 1 && (match i with
    | .iaload => Nat.beq o 1
    | .iastore => Nat.beq o 2
    | .laload => Nat.beq o 3
    | .lastore => Nat.beq o 4
    | .ireturn => (Nat.beq o 5 && !(Nat.beq a 2)) || (Nat.beq o 8 && Nat.beq a 2)
    | .lreturn => Nat.beq o 6
    | .return_ => Nat.beq o 7
    | _ => false)
  | none => false
theorem pt_is1 {mi pc : Nat} (h : pt_is 1 mi pc = true) : ∃ a b, ls_code mi pc = some (.iaload, 1, a, b) := by
  unfold pt_is at h
  split at h
  · rename_i i len a b ec
    rw [Bool.and_eq_true] at h
    have h1 := Nat.eq_of_beq_eq_true h.1
    subst h1
    have h2 := h.2
    split at h2
    · exact ⟨a, b, ec⟩
    all_goals first
    | cases h2
    | (rw [Bool.or_eq_true] at h2; rcases h2 with h2 | h2 <;> (rw [Bool.and_eq_true] at h2; cases h2.1))
  · cases h
theorem pt_is2 {mi pc : Nat} (h : pt_is 2 mi pc = true) : ∃ a b, ls_code mi pc = some (.iastore, 1, a, b) := by
  unfold pt_is at h
  split at h
  · rename_i i len a b ec
    rw [Bool.and_eq_true] at h
    have h1 := Nat.eq_of_beq_eq_true h.1
    subst h1
    have h2 := h.2
    split at h2
    · cases h2
    · exact ⟨a, b, ec⟩
    all_goals first
    | cases h2
    | (rw [Bool.or_eq_true] at h2; rcases h2 with h2 | h2 <;> (rw [Bool.and_eq_true] at h2; cases h2.1))
  · cases h
theorem pt_is3 {mi pc : Nat} (h : pt_is 3 mi pc = true) : ∃ a b, ls_code mi pc = some (.laload, 1, a, b) := by
  unfold pt_is at h
  split at h
  · rename_i i len a b ec
    rw [Bool.and_eq_true] at h
    have h1 := Nat.eq_of_beq_eq_true h.1
    subst h1
    have h2 := h.2
    split at h2
    · cases h2
    · cases h2
    · exact ⟨a, b, ec⟩
    all_goals first
    | cases h2
    | (rw [Bool.or_eq_true] at h2; rcases h2 with h2 | h2 <;> (rw [Bool.and_eq_true] at h2; cases h2.1))
  · cases h
theorem pt_is4 {mi pc : Nat} (h : pt_is 4 mi pc = true) : ∃ a b, ls_code mi pc = some (.lastore, 1, a, b) := by
  unfold pt_is at h
  split at h
  · rename_i i len a b ec
    rw [Bool.and_eq_true] at h
    have h1 := Nat.eq_of_beq_eq_true h.1
    subst h1
    have h2 := h.2
    split at h2
    · cases h2
    · cases h2
    · cases h2
    · exact ⟨a, b, ec⟩
    all_goals first
    | cases h2
    | (rw [Bool.or_eq_true] at h2; rcases h2 with h2 | h2 <;> (rw [Bool.and_eq_true] at h2; cases h2.1))
  · cases h
theorem pt_is5 {mi pc : Nat} (h : pt_is 5 mi pc = true) : ∃ a b, ls_code mi pc = some (.ireturn, 1, a, b) ∧ a ≠ 2 := by
  unfold pt_is at h
  split at h
  · rename_i i len a b ec
    rw [Bool.and_eq_true] at h
    have h1 := Nat.eq_of_beq_eq_true h.1
    subst h1
    have h2 := h.2
    split at h2
    · cases h2
    · cases h2
    · cases h2
    · cases h2
    · rw [Bool.or_eq_true] at h2
      rcases h2 with h2 | h2
      · rw [Bool.and_eq_true, Bool.not_eq_true'] at h2
        exact ⟨a, b, ec, Nat.ne_of_beq_eq_false h2.2⟩
      · rw [Bool.and_eq_true] at h2
        cases h2.1
    all_goals cases h2
  · cases h
theorem pt_is8 {mi pc : Nat} (h : pt_is 8 mi pc = true) : ∃ b, ls_code mi pc = some (.ireturn, 1, 2, b) := by
  unfold pt_is at h
  split at h
  · rename_i i len a b ec
    rw [Bool.and_eq_true] at h
    have h1 := Nat.eq_of_beq_eq_true h.1
    subst h1
    have h2 := h.2
    split at h2
    · cases h2
    · cases h2
    · cases h2
    · cases h2
    · rw [Bool.or_eq_true] at h2
      rcases h2 with h2 | h2
      · rw [Bool.and_eq_true] at h2
        cases h2.1
      · rw [Bool.and_eq_true] at h2
        have h3 := Nat.eq_of_beq_eq_true h2.2
        subst h3
        exact ⟨b, ec⟩
    all_goals cases h2
  · cases h
theorem pt_is6 {mi pc : Nat} (h : pt_is 6 mi pc = true) : ∃ a b, ls_code mi pc = some (.lreturn, 1, a, b) := by
  unfold pt_is at h
  split at h
  · rename_i i len a b ec
    rw [Bool.and_eq_true] at h
    have h1 := Nat.eq_of_beq_eq_true h.1
    subst h1
    have h2 := h.2
    split at h2
    · cases h2
    · cases h2
    · cases h2
    · cases h2
    · rw [Bool.or_eq_true] at h2
      rcases h2 with h2 | h2 <;> (rw [Bool.and_eq_true] at h2; cases h2.1)
    · exact ⟨a, b, ec⟩
    all_goals cases h2
  · cases h
theorem pt_is7 {mi pc : Nat} (h : pt_is 7 mi pc = true) : ∃ a b, ls_code mi pc = some (.return_, 1, a, b) := by
  unfold pt_is at h
  split at h
  · rename_i i len a b ec
    rw [Bool.and_eq_true] at h
    have h1 := Nat.eq_of_beq_eq_true h.1
    subst h1
    have h2 := h.2
    split at h2
    · cases h2
    · cases h2
    · cases h2
    · cases h2
    · rw [Bool.or_eq_true] at h2
      rcases h2 with h2 | h2 <;> (rw [Bool.and_eq_true] at h2; cases h2.1)
    · cases h2
    · exact ⟨a, b, ec⟩
    all_goals cases h2
  · cases h
noncomputable def pt_set (r : Nat → Int) (z : Nat) (v : Int) : Nat → Int := fun t => if t = z then v else r t
noncomputable def pt_sto (M : Nat → Nat → Int) (q j : Nat) (v : Int) : Nat → Nat → Int := fun a b => if a = q ∧ b = j then v else M a b
noncomputable def pt_ne (z t : Nat) : Bool := !(Nat.beq t z)
noncomputable def pt_loc (NL z t : Nat) : Bool := Nat.beq t 0 || (Nat.ble NL t && !(Nat.beq t z))
noncomputable def pt_glo (NL t : Nat) : Bool := Nat.blt t NL
noncomputable def pt_bdq (E0 : ai_E) (z : Nat) (b : Int × Int) : Bool := match fz_look E0.2.1 z with
  | (lo, hi) => ai_le lo b.1 && ai_le b.2 hi
theorem pt_bdq_ok {E0 : ai_E} {z : Nat} {b : Int × Int} (h : pt_bdq E0 z b = true) : (fz_look E0.2.1 z).1 ≤ b.1 ∧ b.2 ≤ (fz_look E0.2.1 z).2 := by
  unfold pt_bdq at h
  cases e : fz_look E0.2.1 z with
  | mk lo hi =>
    rw [e] at h
    rw [Bool.and_eq_true] at h
    exact ⟨ai_le_iff.mp h.1, ai_le_iff.mp h.2⟩
noncomputable def pt_gq (Gh : List (Nat × Nat × Nat)) (q n ty : Nat) : Bool := Gh.any (fun x => decide (x = (q, n, ty))) && (Gh.all (fun x => !(Nat.beq x.1 q) || decide (x = (q, n, ty))) && Gh.all (fun x => Nat.ble 16 x.1))
noncomputable def pt_lck (Y : pt_Y) (mi pc o q n ty z : Nat) (L S : List ai_V) : Bool := (pt_is o mi pc && pt_gq Y.2.2.1 q n ty) && (((Nat.ble 16 q && (ai_cell Y.2.1 q).isNone) && (Nat.ble 1 z && (Nat.blt z Y.1.1 && (match ty with
  | 1 => pt_bdq Y.1 z (ai_lo64, ai_hi64)
  | _ => pt_bdq Y.1 z (ai_lo32, ai_hi32))))) && (pt_yH (pt_ne z) Y.2.1 && (L.all (pt_yV (pt_ne z)) && S.all (pt_yV (pt_ne z)))))
noncomputable def pt_sck (Y : pt_Y) (mi pc o q n ty : Nat) : Bool := (pt_is o mi pc && pt_gq Y.2.2.1 q n ty) && ((Nat.ble 16 q && (ai_cell Y.2.1 q).isNone) && !([286, 288, 289, 290].elem q))
theorem pt_look_ok {E0 : ai_E} {r : Nat → Int} (hE : ai_gE r E0) {t : Nat} (ht : t < E0.1) : (fz_look E0.2.1 t).1 ≤ r t ∧ r t ≤ (fz_look E0.2.1 t).2 ∧ ai_small (r t) := by
  rw [fz_look_eq]
  have g := ai_look_ok (r := r) (l := E0.2.1) (fun z hz => (hE.2.2.2.1 z hz).2) t (hE.2.2.1 t ht)
  exact ⟨g.1, g.2, hE.2.2.1 t ht⟩
theorem pt_gE2 {E0 : ai_E} {r r2 : Nat → Int} (hun : pt_un E0 = true) (hE : ai_gE r E0) (h0 : r2 0 = 0) (h : ∀ t, t < E0.1 → r2 t = r t ∨ ((fz_look E0.2.1 t).1 ≤ r2 t ∧ r2 t ≤ (fz_look E0.2.1 t).2 ∧ ai_small (r2 t))) : ai_gE r2 E0 := by
  unfold pt_un at hun
  rw [Bool.and_eq_true] at hun
  obtain ⟨hu, hnd⟩ := hun
  have hnd := List.isEmpty_iff.mp hnd
  refine ⟨h0, hE.2.1, fun t ht => ?_, fun q hq => ?_, fun q hq => ?_⟩
  · rcases h t ht with e | e
    · rw [e]
      exact hE.2.2.1 t ht
    · exact e.2.2
  · have k := hE.2.2.2.1 q hq
    refine ⟨k.1, ?_⟩
    rcases h q.1 k.1 with e | e
    · rw [e]
      exact k.2
    · have g := List.all_eq_true.mp hu q hq
      cases ef : fz_look E0.2.1 q.1 with
      | mk a b =>
        rw [ef] at g e
        simp only [Bool.and_eq_true] at g
        have g1 := ai_eq_iff.mp g.1
        have g2 := ai_eq_iff.mp g.2.1
        rw [← g1, ← g2]
        exact ⟨e.1, e.2.1⟩
  · rw [hnd] at hq
    cases hq
theorem pt_gq_ok {Gh : List (Nat × Nat × Nat)} {q n ty : Nat} (h : pt_gq Gh q n ty = true) : (q, n, ty) ∈ Gh ∧ (∀ x ∈ Gh, x.1 = q → x = (q, n, ty)) ∧ ∀ x ∈ Gh, 16 ≤ x.1 := by
  unfold pt_gq at h
  simp only [Bool.and_eq_true] at h
  obtain ⟨h1, h2, h3⟩ := h
  refine ⟨?_, fun x hx e => ?_, fun x hx => Nat.le_of_ble_eq_true (List.all_eq_true.mp h3 x hx)⟩
  · obtain ⟨x, x1, x2⟩ := List.any_eq_true.mp h1
    rw [← of_decide_eq_true x2]
    exact x1
  · have g := List.all_eq_true.mp h2 x hx
    rw [Bool.or_eq_true] at g
    rcases g with g | g
    · rw [Bool.not_eq_true', e, Nat.beq_refl] at g
      cases g
    · exact of_decide_eq_true g
theorem pt_bor {a : Nat} {z : Nat} (h : pt_ne z a = true) : a ≠ z := by
  unfold pt_ne at h
  rw [Bool.not_eq_true'] at h
  exact Nat.ne_of_beq_eq_false h
section PTE
variable {p : Program} {l : Launch} {e : Env} {s : State} {m : MethodId} {args : Array Value} {below : List Frame} {meth : Method} {c : Code} {Q : State → Prop}
variable {D : va_G} {tyc : Nat → ClassId} {A : Nat → Prop} {sa : ai_B} {ws0 : va_W} {ad0 : Nat → Nat} {n mi mj : Nat} {Y : pt_Y}
variable {k : Nat × Nat × Nat} {L S S' aa bb : List ai_V} {r : Nat → Int} {M : Nat → Nat → Int}
theorem pt_seg_ok (hpl : lh_plain mi = true) (F : ls_Fr p (lt_rm (n + 1) mi) s m args meth c D tyc A sa mi) (hl : l.stackTraces = false) (hn : 4 ≤ n) (hs : pt_sys Y) {stop : List Nat} {skip : Bool} {sp : List (Nat × Int)} {cp : List (Nat × Int × Int)} {le : List (ai_X × ai_X)} {C : List Nat} {Es : List pt_E}
    (hrow : pt_row Y mi stop skip k L S sp cp le C Es = true) (ha : pt_asm r sp cp le) (hk : pt_ks (pt_W p l e s m args below meth c Q D tyc A sa ws0 ad0 n mi Y) r M Es) :
    pt_W p l e s m args below meth c Q D tyc A sa ws0 ad0 n mi Y k L S r M := by
  intro ws ad H locs ls st hPw hgh hM hx hR
  obtain ⟨hun, hwf⟩ := hs
  unfold pt_row at hrow
  simp only [Bool.and_eq_true] at hrow
  obtain ⟨⟨hcp, hle⟩, hck⟩ := hrow
  have hE0 : ai_gE r Y.1 := hR.env
  obtain ⟨R1, n1, n2, n3⟩ := pt_G_ok hwf hcp hle ha hR
  have res := lh_ok (G := pt_G Y.1 Y.2.1 k sp cp le) (k0 := 0) (T := []) (Q := Q) (e := e) (below := below) hpl F hl trivial (by omega) hPw hck R1 (fun f hf r' ad' x1 x2 x3 x4 H' locs' ls' st' hR' => ?_)
  · rw [n3] at res
    exact res
  · rw [n1] at x1
    rw [n2] at x2
    unfold pt_fs at hf
    split at hf
    case h_2 => cases hf
    rename_i G eG
    obtain ⟨hRG, -⟩ := so_G_ok eG hR'
    obtain ⟨g, g1, g2⟩ := List.any_eq_true.mp hf
    unfold pt_f at g2
    simp only [Bool.and_eq_true] at g2
    obtain ⟨⟨e1, e2, e3⟩, e4, e5⟩ := g2
    split at e5
    · rename_i W eW
      have hE' : ai_gE r' G.1 := hRG.env
      have R2 := pt_re0 (c2 := g.1.2.1) (s2 := g.1.2.2) (E := G.1) (h := G.2.1) (c1 := G.2.2.1) (s1 := G.2.2.2) hun hwf hE0 x1 hRG e5
      have R3 := pt_val (r2 := pt_up r g.2.2.1) (c2 := g.1.2.1) (s2 := g.1.2.2) hun R2 (fun t ht => pt_ws_ok hE' x1 eW t ht)
      rw [Nat.eq_of_beq_eq_true e1, Nat.eq_of_beq_eq_true e2, Nat.eq_of_beq_eq_true e3]
      exact pt_ks_get hk g1 (pt_gs_of (fun x hx => pt_gc_ok hE' x1 (List.all_eq_true.mp e4 x hx))) ws ad' H' locs' ls' st' hPw hgh hM (fun u hu => (x2 u hu).trans (hx u hu)) R3
    · cases e5
theorem pt_gEz {E0 : ai_E} {z : Nat} {v : Int} {b : Int × Int} (hun : pt_un E0 = true) (hE : ai_gE r E0) (hz : 1 ≤ z) (hb : pt_bdq E0 z b = true) (hv : b.1 ≤ v ∧ v ≤ b.2) (hsm : ai_small v) : ai_gE (pt_set r z v) E0 := by
  refine pt_gE2 hun hE ?_ (fun t ht => ?_)
  · show (if 0 = z then v else r 0) = 0
    rw [if_neg (by omega)]
    exact hE.1
  · by_cases q : t = z
    · subst q
      have w := pt_bdq_ok hb
      refine Or.inr ?_
      have : pt_set r t v t = v := if_pos rfl
      rw [this]
      exact ⟨by omega, by omega, hsm⟩
    · exact Or.inl (if_neg q)
theorem pt_sez {z : Nat} {v : Int} : ∀ t, pt_ne z t = true → pt_set r z v t = r t := fun t ht => if_neg (pt_bor ht)
theorem pt_ld_ok (hpl : lh_plain mi = true) (F : ls_Fr p (lt_rm (n + 1) mi) s m args meth c D tyc A sa mi) (hs : pt_sys Y) {q nq z j : Nat} {i : ai_X} (hck : pt_lck Y mi k.1 1 q nq 0 z L S = true) (hj : j < nq) (hi : ai_vx r i = (j : Int))
    (hk : pt_W p l e s m args below meth c Q D tyc A sa ws0 ad0 n mi Y (k.1 + 1, k.2) L (.inl (z, 0) :: S) (pt_set r z (M q j)) M) :
    pt_W p l e s m args below meth c Q D tyc A sa ws0 ad0 n mi Y k L (.inl i :: .inr (.inr (some (some q))) :: S) r M := by
  intro ws ad H locs ls st hPw hgh hM hx hR
  obtain ⟨hun, hwf⟩ := hs
  unfold pt_lck at hck
  simp only [Bool.and_eq_true, Option.isNone_iff_eq_none] at hck
  obtain ⟨⟨c1, c2⟩, ⟨⟨c3, c4⟩, c5, c6, c7⟩, c8, c9, c10⟩ := hck
  have c3 := Nat.le_of_ble_eq_true c3
  obtain ⟨m1, m2, m3⟩ := pt_gq_ok c2
  unfold lh_plain at hpl
  simp only [Bool.and_eq_true, Bool.not_eq_true'] at hpl
  obtain ⟨p1, p3⟩ := hpl
  obtain ⟨mok, htab⟩ := ls_known p1
  obtain ⟨ia, ib, ec⟩ := pt_is1 c1
  obtain ⟨hdg, -, -, -, -⟩ := htab _ _ _ _ _ ec
  obtain ⟨hx', hbb, -, -, -, hSt0, -⟩ := F
  have hE : ai_gE r Y.1 := hR.env
  obtain ⟨hWd, hS, hLL, hSt⟩ := hR.wd
  obtain ⟨ix, t1, rfl, hi1, hi2, h1⟩ := ai_gF.int hSt
  obtain ⟨t, rfl, hqn, h2⟩ := h1.ref
  obtain ⟨f, ⟨a, hw⟩, hf⟩ : ∃ f, hg_ia tyc ws q nq f ∧ ∀ j, j < nq → (f j).toInt = M q j := hM (q, nq, 0) m1
  obtain ⟨ws1, hP, hD, -, hH, -, -⟩ := hWd
  have hqn : q < Y.2.1.1 := hqn
  have hw2 : ws1[q - 16]? = some (a, .inl (tyc 0, nq, .inl f)) := by
    rw [hH.2.2.2 (q - 16) (by show q - 16 + 16 < Y.2.1.1; omega) (by rw [show q - 16 + 16 = q by omega]; exact c4)]
    exact hw
  have ha : a = ad q := by
    have := hH.2.1 _ _ hw2
    rw [show q - 16 + 16 = q by omega] at this
    exact this
  subst ha
  obtain ⟨hvp, hcl⟩ := ai_vpin (i := ix) (j := j) (n := nq) (by rw [hi2]; exact hi) hj
  refine va_iald hx' hbb hSt0.1 hP (q - 16) 0 hw2 rfl hvp hdg ?_
  rw [hcl]
  have hv := hf j hj
  have hE2 : ai_gE (pt_set r z (M q j)) Y.1 := pt_gEz (b := (ai_lo32, ai_hi32)) hun hE (Nat.le_of_ble_eq_true c5) c7 (by rw [← hv]; exact ai_i32 _) (by rw [← hv]; exact ai_small32 (ai_i32 _))
  have W2 := pt_wd (c2 := k.2.1) (s2 := k.2.2) hwf c8 (pt_sez (r := r) (v := M q j)) hE2 hR.wd.1
  exact hk ws ad H locs ls (.int (f j) :: t) hPw hgh hM hx (W2.rel hS (pt_gL2 pt_sez c9 hLL) ⟨⟨Nat.le_of_ble_eq_true c6, f j, rfl, by
    show (f j).toInt = pt_set r z (M q j) z + 0
    have : pt_set r z (M q j) z = M q j := if_pos rfl
    rw [this, hv, Int.add_zero]⟩, pt_gF2 pt_sez c10 h2⟩)
theorem pt_lld_ok (hpl : lh_plain mi = true) (F : ls_Fr p (lt_rm (n + 1) mi) s m args meth c D tyc A sa mi) (hs : pt_sys Y) {q nq z j : Nat} {i : ai_X} (hck : pt_lck Y mi k.1 3 q nq 1 z L S = true) (hj : j < nq) (hi : ai_vx r i = (j : Int))
    (hk : pt_W p l e s m args below meth c Q D tyc A sa ws0 ad0 n mi Y (k.1 + 1, k.2) L (.inr (.inl (z, 0)) :: S) (pt_set r z (M q j)) M) :
    pt_W p l e s m args below meth c Q D tyc A sa ws0 ad0 n mi Y k L (.inl i :: .inr (.inr (some (some q))) :: S) r M := by
  intro ws ad H locs ls st hPw hgh hM hx hR
  obtain ⟨hun, hwf⟩ := hs
  unfold pt_lck at hck
  simp only [Bool.and_eq_true, Option.isNone_iff_eq_none] at hck
  obtain ⟨⟨c1, c2⟩, ⟨⟨c3, c4⟩, c5, c6, c7⟩, c8, c9, c10⟩ := hck
  have c3 := Nat.le_of_ble_eq_true c3
  obtain ⟨m1, m2, m3⟩ := pt_gq_ok c2
  unfold lh_plain at hpl
  simp only [Bool.and_eq_true, Bool.not_eq_true'] at hpl
  obtain ⟨p1, p3⟩ := hpl
  obtain ⟨mok, htab⟩ := ls_known p1
  obtain ⟨ia, ib, ec⟩ := pt_is3 c1
  obtain ⟨hdg, -, -, -, -⟩ := htab _ _ _ _ _ ec
  obtain ⟨hx', hbb, -, -, -, hSt0, -⟩ := F
  have hE : ai_gE r Y.1 := hR.env
  obtain ⟨hWd, hS, hLL, hSt⟩ := hR.wd
  obtain ⟨ix, t1, rfl, hi1, hi2, h1⟩ := ai_gF.int hSt
  obtain ⟨t, rfl, hqn, h2⟩ := h1.ref
  obtain ⟨f, ⟨a, hw⟩, hf⟩ : ∃ f, hg_la tyc ws q nq f ∧ ∀ j, j < nq → (f j).toInt = M q j := hM (q, nq, 1) m1
  obtain ⟨ws1, hP, hD, -, hH, -, -⟩ := hWd
  have hqn : q < Y.2.1.1 := hqn
  have hw2 : ws1[q - 16]? = some (a, .inl (tyc 1, nq, .inr (.inl f))) := by
    rw [hH.2.2.2 (q - 16) (by show q - 16 + 16 < Y.2.1.1; omega) (by rw [show q - 16 + 16 = q by omega]; exact c4)]
    exact hw
  have ha : a = ad q := by
    have := hH.2.1 _ _ hw2
    rw [show q - 16 + 16 = q by omega] at this
    exact this
  subst ha
  obtain ⟨hvp, hcl⟩ := ai_vpin (i := ix) (j := j) (n := nq) (by rw [hi2]; exact hi) hj
  refine va_lald hx' hbb hSt0.1 hP (q - 16) 1 hw2 rfl hvp hdg ?_
  rw [hcl]
  have hv := hf j hj
  have hE2 : ai_gE (pt_set r z (M q j)) Y.1 := pt_gEz (b := (ai_lo64, ai_hi64)) hun hE (Nat.le_of_ble_eq_true c5) c7 (by rw [← hv]; exact ai_i64 _) (by rw [← hv]; exact ai_i64 _)
  have W2 := pt_wd (c2 := k.2.1) (s2 := k.2.2) hwf c8 (pt_sez (r := r) (v := M q j)) hE2 hR.wd.1
  exact hk ws ad H locs ls (.long (f j) :: t) hPw hgh hM hx (W2.rel hS (pt_gL2 pt_sez c9 hLL) ⟨⟨Nat.le_of_ble_eq_true c6, f j, rfl, by
    show (f j).toInt = pt_set r z (M q j) z + 0
    have : pt_set r z (M q j) z = M q j := if_pos rfl
    rw [this, hv, Int.add_zero]⟩, pt_gF2 pt_sez c10 h2⟩)
theorem pt_pw {tyc : Nat → ClassId} {ws ws' : va_W} {q : Nat} (hq16 : 16 ≤ q) (hq : [286, 288, 289, 290].elem q = false) (h : ai_Pw tyc ws) (g : ∀ x, x ≠ q - 16 → ws'[x]? = ws[x]?) (hx : ai_Px tyc ws') : ai_Pw tyc ws' := by
  have ne : ∀ u ∈ [286, 288, 289, 290], u ≠ q := fun u hu e => by
    subst e
    have := List.elem_eq_true_of_mem hu
    rw [this] at hq
    cases hq
  have n1 := ne 286 (by simp)
  have n2 := ne 288 (by simp)
  have n3 := ne 289 (by simp)
  have n4 := ne 290 (by simp)
  exact ⟨h.1.same (g 270 (by omega)) (g 272 (by omega)) (g 273 (by omega)) (g 274 (by omega)), hx⟩
theorem pt_Mst {Gh : List (Nat × Nat × Nat)} {ws ws' : va_W} {q nq ty j : Nat} {v : Int} (hgq : pt_gq Gh q nq ty = true) (h : pt_M tyc Gh ws M) (g : ∀ x, x ≠ q - 16 → ws'[x]? = ws[x]?) (hq : pt_A tyc ws' q nq ty (pt_sto M q j v q)) : pt_M tyc Gh ws' (pt_sto M q j v) := fun x hx => by
  obtain ⟨m1, m2, m3⟩ := pt_gq_ok hgq
  by_cases e : x.1 = q
  · have e2 := m2 x hx e
    subst e2
    exact hq
  · have hm : pt_sto M q j v x.1 = M x.1 := funext (fun b => if_neg (fun w => e w.1))
    rw [hm]
    have h1 := h x hx
    have b1 := m3 x hx
    have b2 := m3 _ m1
    have b2 : 16 ≤ q := b2
    have e3 := g (x.1 - 16) (by omega)
    unfold pt_A at h1 ⊢
    split at h1
    · obtain ⟨f, ⟨a, ha⟩, hf⟩ := h1
      exact ⟨f, ⟨a, e3.trans ha⟩, hf⟩
    · obtain ⟨f, ⟨a, ha⟩, hf⟩ := h1
      exact ⟨f, ⟨a, e3.trans ha⟩, hf⟩
theorem pt_ghst {Gh : List (Nat × Nat × Nat)} {ws ws' : va_W} {q nq ty : Nat} (hgq : pt_gq Gh q nq ty = true) (h : pt_gh Gh ws0 ws) (g : ∀ x, x ≠ q - 16 → ws'[x]? = ws[x]?) : pt_gh Gh ws0 ws' := fun x hx => by
  obtain ⟨m1, m2, m3⟩ := pt_gq_ok hgq
  have b2 := m3 _ m1
  have b2 : 16 ≤ q := b2
  have := hx _ m1
  have : q ≠ x + 16 := this
  rw [g x (by omega)]
  exact h x hx
theorem pt_st_ok (hpl : lh_plain mi = true) (F : ls_Fr p (lt_rm (n + 1) mi) s m args meth c D tyc A sa mi) {q nq j : Nat} {i v : ai_X} (hck : pt_sck Y mi k.1 2 q nq 0 = true) (hj : j < nq) (hi : ai_vx r i = (j : Int))
    (hk : pt_W p l e s m args below meth c Q D tyc A sa ws0 ad0 n mi Y (k.1 + 1, k.2) L S r (pt_sto M q j (ai_vx r v))) :
    pt_W p l e s m args below meth c Q D tyc A sa ws0 ad0 n mi Y k L (.inl v :: .inl i :: .inr (.inr (some (some q))) :: S) r M := by
  intro ws ad H locs ls st hPw hgh hM hx hR
  unfold pt_sck at hck
  simp only [Bool.and_eq_true, Option.isNone_iff_eq_none, Bool.not_eq_true'] at hck
  obtain ⟨⟨c1, c2⟩, ⟨c3, c4⟩, c5⟩ := hck
  have c3 := Nat.le_of_ble_eq_true c3
  obtain ⟨m1, m2, m3⟩ := pt_gq_ok c2
  unfold lh_plain at hpl
  simp only [Bool.and_eq_true, Bool.not_eq_true'] at hpl
  obtain ⟨p1, p3⟩ := hpl
  obtain ⟨mok, htab⟩ := ls_known p1
  obtain ⟨ia, ib, ec⟩ := pt_is2 c1
  obtain ⟨hdg, -, -, -, -⟩ := htab _ _ _ _ _ ec
  obtain ⟨f, hw, hf⟩ : ∃ f, hg_ia tyc ws q nq f ∧ ∀ j, j < nq → (f j).toInt = M q j := hM (q, nq, 0) m1
  refine hg_iast (G := (Y.1, Y.2.1, k.2.1, k.2.2)) F hdg hR c3 c4 hw hj hi (fun ws1 H1 locs1 st' f' g1 g2 g3 g4 hR' => ?_)
  exact hk ws1 ad H1 locs1 ls st' (pt_pw c3 c5 hPw g4 (hPw.2.st hw g1 g4)) (pt_ghst c2 hgh g4) (pt_Mst c2 hM g4 ⟨f', g1, fun b hb => by
    show (f' b).toInt = if q = q ∧ b = j then ai_vx r v else M q b
    by_cases e : b = j
    · rw [if_pos ⟨rfl, e⟩, e, g2]
    · rw [if_neg (fun w => e w.2), g3 b e, hf b hb]⟩) hx hR'
/-- a write of a long -/
theorem pt_last {R : Room} {nL : Nat} {cc : ByteArray} {own : String} {Ts : List Cond} {strs : List ai_Z} {nws : List Cond} {bud : Nat × Nat} {dflt : Nat → List ai_V} {kind : Nat → Nat → Nat} {ad : Nat → Nat} {G : ai_G} {H : Heap} {locs : List Loc} {ls : Array Slot} {st : List Value} {pc : Nat} {ws : va_W}
    (F : ai_Fr p R s m args meth c D tyc A sa nL cc own Ts strs nws bud dflt kind) (hdg : decode cc pc = .ok (.lastore, 1)) {i v : ai_X} {q n j : Nat} {f : Nat → Int64} (hR : ai_Rel D tyc A s sa ws nL r ad L (.inr (.inl v) :: .inl i :: .inr (.inr (some (some q))) :: S) G H locs ls st)
    (hq : 16 ≤ q) (hc : ai_cell G.2.1 q = none) (hf : hg_la tyc ws q n f) (hj : j < n) (hi : ai_vx r i = (j : Int))
    (k : ∀ (ws1 : va_W) (H1 : Heap) (locs1 : List Loc) (st' : List Value) (f' : Nat → Int64), hg_la tyc ws1 q n f' → (f' j).toInt = ai_vx r v → (∀ x, x ≠ j → f' x = f x) → (∀ x, x ≠ q - 16 → ws1[x]? = ws[x]?) → ai_Rel D tyc A s sa ws1 nL r ad L S G H1 locs1 ls st' → W p l e R s m args below meth c H1 locs1 G.2.2.1 G.2.2.2 Q (F0 m (pc + 1) ls st')) :
    W p l e R s m args below meth c H locs G.2.2.1 G.2.2.2 Q (F0 m pc ls st) := by
  obtain ⟨hx, hbb, -, -, -, hSt0, -⟩ := F
  obtain ⟨ws2, hP, hD, hS, hE, hH, hO, hsa, hL, hSt⟩ := hR
  obtain ⟨vx, t0, rfl, hz1, hz2, h0⟩ := ai_gF.long hSt
  obtain ⟨ix, t1, rfl, hi1, hi2, h1⟩ := h0.int
  obtain ⟨t, rfl, hqn, h2⟩ := h1.ref
  obtain ⟨hvp, hcl⟩ := ai_vpin (i := ix) (j := j) (n := n) (by rw [hi2]; exact hi) hj
  obtain ⟨a, hw⟩ := hf
  have hk : ws2[q - 16]? = ws[q - 16]? := hH.2.2.2 (q - 16) (by omega) (by rw [show q - 16 + 16 = q by omega]; exact hc)
  have hw2 : ws2[q - 16]? = some (a, .inl (tyc 1, n, .inr (.inl f))) := by rw [hk]; exact hw
  have ha : a = ad q := by
    have := hH.2.1 _ _ hw2
    rw [show q - 16 + 16 = q by omega] at this
    exact this
  subst ha
  have hlt : q - 16 < ws2.length := (List.getElem?_eq_some_iff.mp hw2).1
  have hlt0 : q - 16 < ws.length := (List.getElem?_eq_some_iff.mp hw).1
  refine va_last hx hbb hSt0.1 hP hD hS (q - 16) 1 hw2 rfl hvp hdg (fun H1 locs1 hP1 hD1 hS1 => ?_)
  rw [hcl] at hP1 hD1
  refine k (ws.set (q - 16) (ad q, .inl (tyc 1, n, .inr (.inl (vp_updL f j vx))))) H1 locs1 t (vp_updL f j vx) ⟨ad q, List.getElem?_set_self hlt0⟩ (by rw [← hz2]; simp [vp_updL]) (fun x hx => by simp [vp_updL, hx]) (fun x hx => List.getElem?_set_ne (Ne.symm hx)) ⟨_, hP1, hD1, hS1, hE, ⟨by rw [List.length_set]; exact hH.1, fun x y hy => ?_, fun x hxn d hd => ?_, fun x hxn hd => ?_⟩, hO, hsa, hL, h2⟩
  · by_cases hxq : x = q - 16
    · subst hxq
      rw [List.getElem?_set_self hlt] at hy
      cases hy
      show ad q = _
      rw [show q - 16 + 16 = q by omega]
    · rw [List.getElem?_set_ne (Ne.symm hxq)] at hy
      exact hH.2.1 _ _ hy
  · by_cases hxq : x = q - 16
    · subst hxq
      rw [show q - 16 + 16 = q by omega, hc] at hd
      cases hd
    · rw [List.getElem?_set_ne (Ne.symm hxq)]
      exact hH.2.2.1 x hxn d hd
  · by_cases hxq : x = q - 16
    · subst hxq
      rw [List.getElem?_set_self hlt, List.getElem?_set_self hlt0]
    · rw [List.getElem?_set_ne (Ne.symm hxq), List.getElem?_set_ne (Ne.symm hxq)]
      exact hH.2.2.2 x hxn hd
theorem pt_lst_ok (hpl : lh_plain mi = true) (F : ls_Fr p (lt_rm (n + 1) mi) s m args meth c D tyc A sa mi) {q nq j : Nat} {i v : ai_X} (hck : pt_sck Y mi k.1 4 q nq 1 = true) (hj : j < nq) (hi : ai_vx r i = (j : Int))
    (hk : pt_W p l e s m args below meth c Q D tyc A sa ws0 ad0 n mi Y (k.1 + 1, k.2) L S r (pt_sto M q j (ai_vx r v))) :
    pt_W p l e s m args below meth c Q D tyc A sa ws0 ad0 n mi Y k L (.inr (.inl v) :: .inl i :: .inr (.inr (some (some q))) :: S) r M := by
  intro ws ad H locs ls st hPw hgh hM hx hR
  unfold pt_sck at hck
  simp only [Bool.and_eq_true, Option.isNone_iff_eq_none, Bool.not_eq_true'] at hck
  obtain ⟨⟨c1, c2⟩, ⟨c3, c4⟩, c5⟩ := hck
  have c3 := Nat.le_of_ble_eq_true c3
  obtain ⟨m1, m2, m3⟩ := pt_gq_ok c2
  unfold lh_plain at hpl
  simp only [Bool.and_eq_true, Bool.not_eq_true'] at hpl
  obtain ⟨p1, p3⟩ := hpl
  obtain ⟨mok, htab⟩ := ls_known p1
  obtain ⟨ia, ib, ec⟩ := pt_is4 c1
  obtain ⟨hdg, -, -, -, -⟩ := htab _ _ _ _ _ ec
  obtain ⟨f, hw, hf⟩ : ∃ f, hg_la tyc ws q nq f ∧ ∀ j, j < nq → (f j).toInt = M q j := hM (q, nq, 1) m1
  refine pt_last (G := (Y.1, Y.2.1, k.2.1, k.2.2)) F hdg hR c3 c4 hw hj hi (fun ws1 H1 locs1 st' f' g1 g2 g3 g4 hR' => ?_)
  exact hk ws1 ad H1 locs1 ls st' (pt_pw c3 c5 hPw g4 (by
    obtain ⟨a, hw⟩ := hw
    exact hPw.2.stl hw g4)) (pt_ghst c2 hgh g4) (pt_Mst c2 hM g4 ⟨f', g1, fun b hb => by
    show (f' b).toInt = if q = q ∧ b = j then ai_vx r v else M q b
    by_cases e : b = j
    · rw [if_pos ⟨rfl, e⟩, e, g2]
    · rw [if_neg (fun w => e w.2), g3 b e, hf b hb]⟩) hx hR'
end PTE
