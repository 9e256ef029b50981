/-! PURE TRANSITIONS (5): the closure -/
noncomputable def pt_sv (N : Nat) (r : Nat → Int) (a b : ai_V) : Prop := match b with
  | .inl y => (match a with
    | .inl x => y.1 < N ∧ ai_vx r x = ai_vx r y
    | .inr _ => False)
  | .inr (.inl y) => (match a with
    | .inr (.inl x) => y.1 < N ∧ ai_vx r x = ai_vx r y
    | _ => False)
  | .inr (.inr none) => True
  | .inr (.inr (some q)) => a = .inr (.inr (some q))
noncomputable def pt_sm (N : Nat) (r : Nat → Int) : List ai_V → List ai_V → Prop
  | [], [] => True
  | a :: l, b :: m => pt_sv N r a b ∧ pt_sm N r l m
  | _, _ => False
noncomputable def pt_mb (Gh : List (Nat × Nat × Nat)) (M : Nat → Nat → Int) : Prop := ∀ q ∈ Gh, ∀ j, j < q.2.1 → (q.2.2 ≠ 1 → ai_lo32 ≤ M q.1 j ∧ M q.1 j ≤ ai_hi32) ∧ (ai_lo64 ≤ M q.1 j ∧ M q.1 j ≤ ai_hi64)
noncomputable def pt_Cl (n mi : Nat) (Y : pt_Y) (rt : Nat) (Z : (Nat → Int) → (Nat → Nat → Int) → Option Int → Prop) (P : pt_P) : Prop :=
  (∀ (stop : List Nat) (skip : Bool) (k : Nat × Nat × Nat) (L S : List ai_V) (r : Nat → Int) (M : Nat → Nat → Int) (sp : List (Nat × Int)) (cp : List (Nat × Int × Int)) (le : List (ai_X × ai_X)) (C : List Nat) (Es : List pt_E), pt_row Y mi stop skip k L S sp cp le C Es = true → pt_asm r sp cp le → pt_ks P r M Es → P k L S r M) ∧
  (∀ (k : Nat × Nat × Nat) (L S : List ai_V) (r : Nat → Int) (M : Nat → Nat → Int), (ai_gE r Y.1 → pt_mb Y.2.2.1 M → P k L S r M) → P k L S r M) ∧
  (∀ (k : Nat × Nat × Nat) (L L2 S S2 : List ai_V) (r : Nat → Int) (M : Nat → Nat → Int), pt_sm Y.1.1 r L L2 → pt_sm Y.1.1 r S S2 → P k L2 S2 r M → P k L S r M) ∧
  (∀ (k : Nat × Nat × Nat) (L S : List ai_V) (r r2 : Nat → Int) (M M2 : Nat → Nat → Int), (∀ t, t < Y.1.1 → r2 t = r t) → (∀ q ∈ Y.2.2.1, ∀ j, j < q.2.1 → M2 q.1 j = M q.1 j) → P k L S r2 M2 → P k L S r M) ∧
  (∀ (k : Nat × Nat × Nat) (L S : List ai_V) (r : Nat → Int) (M : Nat → Nat → Int) (q nq z j : Nat) (i : ai_X), pt_lck Y mi k.1 1 q nq 0 z L S = true → j < nq → ai_vx r i = (j : Int) → P (k.1 + 1, k.2) L (.inl (z, 0) :: S) (pt_set r z (M q j)) M → P k L (.inl i :: .inr (.inr (some (some q))) :: S) r M) ∧
  (∀ (k : Nat × Nat × Nat) (L S : List ai_V) (r : Nat → Int) (M : Nat → Nat → Int) (q nq z j : Nat) (i : ai_X), pt_lck Y mi k.1 3 q nq 1 z L S = true → j < nq → ai_vx r i = (j : Int) → P (k.1 + 1, k.2) L (.inr (.inl (z, 0)) :: S) (pt_set r z (M q j)) M → P k L (.inl i :: .inr (.inr (some (some q))) :: S) r M) ∧
  (∀ (k : Nat × Nat × Nat) (L S : List ai_V) (r : Nat → Int) (M : Nat → Nat → Int) (q nq j : Nat) (i v : ai_X), pt_sck Y mi k.1 2 q nq 0 = true → j < nq → ai_vx r i = (j : Int) → P (k.1 + 1, k.2) L S r (pt_sto M q j (ai_vx r v)) → P k L (.inl v :: .inl i :: .inr (.inr (some (some q))) :: S) r M) ∧
  (∀ (k : Nat × Nat × Nat) (L S : List ai_V) (r : Nat → Int) (M : Nat → Nat → Int) (q nq j : Nat) (i v : ai_X), pt_sck Y mi k.1 4 q nq 1 = true → j < nq → ai_vx r i = (j : Int) → P (k.1 + 1, k.2) L S r (pt_sto M q j (ai_vx r v)) → P k L (.inr (.inl v) :: .inl i :: .inr (.inr (some (some q))) :: S) r M) ∧
  (∀ (k : Nat × Nat × Nat) (L S S' aa bb : List ai_V) (r : Nat → Int) (M : Nat → Nat → Int) (mj rt z : Nat) (Pre : (Nat → Int) → (Nat → Nat → Int) → Prop) (Post : (Nat → Int) → (Nat → Nat → Int) → (Nat → Int) → (Nat → Nat → Int) → Option Int → Prop), lh_plain mj = true → cy_vk mi k.1 mj Y.2.1 S aa S' = true → pt_cck Y mi mj k rt z L S' aa bb = true → pt_Met n mj Y bb Pre Post rt → Pre (pt_up r (pt_wc aa bb)) M → (∀ r2 M2 v, Post (pt_up r (pt_wc aa bb)) M r2 M2 v → P (k.1 + 3, k.2.1 + (lt_rm n mj).cells, k.2.2 + (lt_rm n mj).slots) L (pt_psh rt z S') (pt_mrg Y.2.2.2 r r2 z v) M2) → P k L S r M) ∧
  (∀ (k : Nat × Nat × Nat) (L S S' aa bb : List ai_V) (r : Nat → Int) (M : Nat → Nat → Int) (mj rt z : Nat) (Pre : (Nat → Int) → (Nat → Nat → Int) → Prop) (Post : (Nat → Int) → (Nat → Nat → Int) → (Nat → Int) → (Nat → Nat → Int) → Option Int → Prop), lh_plain mj = true → pt_sk mi k.1 mj S aa S' = true → pt_cck Y mi mj k rt z L S' aa bb = true → ((ct_mt mj).2.2.2.2.1.isSome = true ∨ (∀ idx, ls_code mi k.1 = some (.invokestatic idx, 3, mj, (ct_mt mj).2.2.2.2.2) → Cond.methodLink (ct_mt mi).1.cls idx (ct_mt mj).1 ∈ ft_W)) → pt_Met n mj Y bb Pre Post rt → Pre (pt_up r (pt_wc aa bb)) M → (∀ r2 M2 v, Post (pt_up r (pt_wc aa bb)) M r2 M2 v → P (k.1 + 3, k.2.1 + (lt_rm n mj).cells, k.2.2 + (lt_rm n mj).slots) L (pt_psh rt z S') (pt_mrg Y.2.2.2 r r2 z v) M2) → P k L S r M) ∧
  (∀ (k : Nat × Nat × Nat) (L : List ai_V) (x : ai_X) (r : Nat → Int) (M : Nat → Nat → Int), rt = 1 → pt_is 5 mi k.1 = true → Nat.ble k.2.1 (ct_bud mi).1 = true → Nat.ble k.2.2 (ct_bud mi).2 = true → Z r M (some (ai_vx r x)) → P k L [.inl x] r M) ∧
  (∀ (k : Nat × Nat × Nat) (L : List ai_V) (x : ai_X) (r : Nat → Int) (M : Nat → Nat → Int), rt = 1 → pt_is 8 mi k.1 = true → Nat.ble k.2.1 (ct_bud mi).1 = true → Nat.ble k.2.2 (ct_bud mi).2 = true → (ai_vx r x = 0 ∨ ai_vx r x = 1) → Z r M (some (ai_vx r x)) → P k L [.inl x] r M) ∧
  (∀ (k : Nat × Nat × Nat) (L : List ai_V) (x : ai_X) (r : Nat → Int) (M : Nat → Nat → Int), rt = 2 → pt_is 6 mi k.1 = true → Nat.ble k.2.1 (ct_bud mi).1 = true → Nat.ble k.2.2 (ct_bud mi).2 = true → Z r M (some (ai_vx r x)) → P k L [.inr (.inl x)] r M) ∧
  (∀ (k : Nat × Nat × Nat) (L : List ai_V) (r : Nat → Int) (M : Nat → Nat → Int), rt = 0 → pt_is 7 mi k.1 = true → Nat.ble k.2.1 (ct_bud mi).1 = true → Nat.ble k.2.2 (ct_bud mi).2 = true → Z r M none → P k L [] r M)
section PTH
variable {p : Program} {l : Launch} {e : Env} {s : State} {m : MethodId} {args : Array Value} {below : List Frame} {meth : Method} {c : Code} {Q : State → Prop}
variable {D : va_G} {tyc : Nat → ClassId} {A : Nat → Prop} {sa : ai_B} {ws0 : va_W} {ad0 : Nat → Nat} {n mi mj : Nat} {Y : pt_Y}
variable {k : Nat × Nat × Nat} {L S S' aa bb : List ai_V} {r : Nat → Int} {M : Nat → Nat → Int} {rt z : Nat} {Z : (Nat → Int) → (Nat → Nat → Int) → Option Int → Prop}
theorem pt_sv_ok {ad : Nat → Nat} {N n : Nat} {a b : ai_V} {v : Value} (h : pt_sv N r a b) (g : ai_gV r ad N n a v) : ai_gV r ad N n b v := by
  rcases b with y | y | _ | q
  · rcases a with x | a
    · obtain ⟨g1, i, g2, g3⟩ := g
      exact ⟨h.1, i, g2, g3.trans h.2⟩
    · exact h.elim
  · rcases a with x | x | a
    · exact h.elim
    · obtain ⟨g1, i, g2, g3⟩ := g
      exact ⟨h.1, i, g2, g3.trans h.2⟩
    · exact h.elim
  · trivial
  · have h : a = .inr (.inr (some q)) := h
    rw [← h]
    exact g
theorem pt_sm_gF {ad : Nat → Nat} {N n : Nat} : ∀ {S S2 : List ai_V} {st : List Value}, pt_sm N r S S2 → ai_gF r ad N n S st → ai_gF r ad N n S2 st
  | [], [], _, _, g => g
  | [], _ :: _, _, h, _ => h.elim
  | _ :: _, [], _, h, _ => h.elim
  | _ :: _, _ :: _, [], _, g => g.elim
  | _ :: _, _ :: _, _ :: _, h, g => ⟨pt_sv_ok h.1 g.1, pt_sm_gF h.2 g.2⟩
theorem pt_sm_get {N : Nat} : ∀ {L L2 : List ai_V}, pt_sm N r L L2 → L.length = L2.length ∧ ∀ i, pt_sv N r (ai_lget L i) (ai_lget L2 i)
  | [], [], _ => ⟨rfl, fun i => trivial⟩
  | [], _ :: _, h => h.elim
  | _ :: _, [], h => h.elim
  | a :: l, b :: m, h => by
    obtain ⟨h1, h2⟩ := pt_sm_get h.2
    refine ⟨by rw [List.length_cons, List.length_cons, h1], fun i => ?_⟩
    cases i with
    | zero => exact h.1
    | succ i => exact h2 i
theorem pt_sm_gL {ad : Nat → Nat} {N n nL : Nat} {L L2 : List ai_V} {ls : Array Slot} (h : pt_sm N r L L2) (g : ai_gL r ad N n nL L ls) : ai_gL r ad N n nL L2 ls := by
  obtain ⟨h1, h2⟩ := pt_sm_get h
  obtain ⟨g1, g2, g3, g4⟩ := g
  refine ⟨h1.symm.trans g1, g2, g3, fun i hi => ?_⟩
  have hne : ai_lget L i ≠ .inr (.inr none) := fun q => by
    have w := h2 i
    rw [q] at w
    rcases eb : ai_lget L2 i with y | y | _ | q
    · rw [eb] at w; exact w.elim
    · rw [eb] at w; exact w.elim
    · exact hi eb
    · rw [eb] at w
      have w : (.inr (.inr none) : ai_V) = .inr (.inr (some q)) := w
      cases w
  obtain ⟨v, v1, v2⟩ := g4 i hne
  exact ⟨v, v1, pt_sv_ok (h2 i) v2⟩
theorem pt_M_b {ws : va_W} {Gh : List (Nat × Nat × Nat)} (h : pt_M tyc Gh ws M) : pt_mb Gh M := fun q hq j hj => by
  have g := h q hq
  unfold pt_A at g
  split at g
  · rename_i e
    obtain ⟨f, -, hf⟩ := g
    rw [← hf j hj]
    exact ⟨fun w => absurd e w, ai_i64 _⟩
  · obtain ⟨f, -, hf⟩ := g
    rw [← hf j hj]
    exact ⟨fun _ => ai_i32 _, ai_small32 (ai_i32 _)⟩
theorem pt_M_c {ws : va_W} {Gh : List (Nat × Nat × Nat)} {M2 : Nat → Nat → Int} (h : pt_M tyc Gh ws M) (e : ∀ q ∈ Gh, ∀ j, j < q.2.1 → M2 q.1 j = M q.1 j) : pt_M tyc Gh ws M2 := fun q hq => by
  have g := h q hq
  unfold pt_A at g ⊢
  split at g
  · obtain ⟨f, f1, f2⟩ := g
    exact ⟨f, f1, fun j hj => (f2 j hj).trans (e q hq j hj).symm⟩
  · obtain ⟨f, f1, f2⟩ := g
    exact ⟨f, f1, fun j hj => (f2 j hj).trans (e q hq j hj).symm⟩
/-- the predicate on the machine is closed so -/
theorem pt_W_cl (hpl : lh_plain mi = true) (F : ls_Fr p (lt_rm (n + 1) mi) s m args meth c D tyc A sa mi) (hret : meth.sig.returnType = (ct_mt mi).2.2.2.1) (hl : l.stackTraces = false) (hn : 4 ≤ n) (hs : pt_sys Y) :
    pt_Cl n mi Y rt Z (pt_W p l e s m args below meth c (vx_MQ below (pt_Q D tyc A sa ws0 ad0 Y Z rt) (fun _ _ _ => False) args s (lt_rm (n + 1) mi).cells (lt_rm (n + 1) mi).slots A) D tyc A sa ws0 ad0 n mi Y) := by
  have hpl' := hpl
  unfold lh_plain at hpl'
  simp only [Bool.and_eq_true, Bool.not_eq_true'] at hpl'
  obtain ⟨p1, p3⟩ := hpl'
  obtain ⟨mok, htab⟩ := ls_known p1
  rw [p3] at htab
  have F' := F
  obtain ⟨hx', hb, hml, hts, hown, hSt0, hA, hbud, hcls, hroom, hlocks⟩ := F'
  refine ⟨fun stop skip k L S r M sp cp le C Es h1 h2 h3 => pt_seg_ok hpl F hl hn hs h1 h2 h3, fun k L S r M h => ?_, fun k L L2 S S2 r M h1 h2 h3 => ?_, fun k L S r r2 M M2 h1 h2 h3 => ?_, fun k L S r M q nq z j i h1 h2 h3 h4 => pt_ld_ok hpl F hs h1 h2 h3 h4, fun k L S r M q nq z j i h1 h2 h3 h4 => pt_lld_ok hpl F hs h1 h2 h3 h4, fun k L S r M q nq j i v h1 h2 h3 h4 => pt_st_ok hpl F h1 h2 h3 h4, fun k L S r M q nq j i v h1 h2 h3 h4 => pt_lst_ok hpl F h1 h2 h3 h4, fun k L S S' aa bb r M mj rt z Pre Post h1 h2 h3 h4 h5 h6 => pt_callv_ok hpl h1 F hl hs h2 h3 h4 h5 h6, fun k L S S' aa bb r M mj rt z Pre Post h1 h2 h3 h4 h5 h6 h7 => pt_calls_ok hpl h1 F hl hs h2 h3 h4 h5 h6 h7, fun k L x r M e1 h1 h2 h3 h4 => ?_, fun k L x r M e1 h1 h2 h3 h4 h5 => ?_, fun k L x r M e1 h1 h2 h3 h4 => ?_, fun k L r M e1 h1 h2 h3 h4 => ?_⟩
  · intro ws ad H locs ls st hPw hgh hM hx hR
    exact h hR.env (pt_M_b hM) ws ad H locs ls st hPw hgh hM hx hR
  · intro ws ad H locs ls st hPw hgh hM hx hR
    obtain ⟨a1, a2, a3, a4⟩ := hR.wd
    exact h3 ws ad H locs ls st hPw hgh hM hx (a1.rel a2 (pt_sm_gL h1 a3) (pt_sm_gF h2 a4))
  · intro ws ad H locs ls st hPw hgh hM hx hR
    exact h3 ws ad H locs ls st hPw hgh (pt_M_c hM h2) hx (pt_val hs.1 hR h1)
  · intro ws ad H locs ls st hPw hgh hM hx hR
    obtain ⟨ia, ib, ec, ha⟩ := pt_is5 h1
    obtain ⟨d1, -, -, d4, -⟩ := htab _ _ _ _ _ ec
    obtain ⟨-, w1, w2⟩ := d4
    obtain ⟨hWd, hS, hLL, hSt⟩ := hR.wd
    obtain ⟨i, t, rfl, i1, i2, i3⟩ := hSt.int
    have ht : t = [] := by
      cases t with
      | nil => rfl
      | cons w t => exact i3.elim
    subst ht
    refine W.widen (Nat.le_of_ble_eq_true h2) (Nat.le_of_ble_eq_true h3) (vx_ret (W.iret hx' hb (hret.trans (w2 ha)) (fun t ht _ => ?_) hS.2.2 d1 hlocks))
    refine ⟨some i.toInt, r, M, ws, ?_, by rw [i2]; exact h4, hPw, hgh, hM, by rw [ht]; exact pt_back hs.2 hx hWd, hS.F ht⟩
    subst e1
    exact ⟨i, rfl, rfl⟩
  · intro ws ad H locs ls st hPw hgh hM hx hR
    obtain ⟨ib, ec⟩ := pt_is8 h1
    obtain ⟨d1, -, -, d4, -⟩ := htab _ _ _ _ _ ec
    obtain ⟨-, w1, w2⟩ := d4
    obtain ⟨hWd, hS, hLL, hSt⟩ := hR.wd
    obtain ⟨i, t, rfl, i1, i2, i3⟩ := hSt.int
    have ht : t = [] := by
      cases t with
      | nil => rfl
      | cons w t => exact i3.elim
    subst ht
    have fin : ∀ T : State, T.heap = H → pt_Q D tyc A sa ws0 ad0 Y Z rt args s (.returned (some (.int i))) T := fun T ht => by
      refine ⟨some i.toInt, r, M, ws, ?_, by rw [i2]; exact h5, hPw, hgh, hM, by rw [ht]; exact pt_back hs.2 hx hWd, hS.F ht⟩
      subst e1
      exact ⟨i, rfl, rfl⟩
    rcases h4 with hz | hz
    · have hz : i = 0 := Int32.toInt_inj.mp (by rw [i2, hz]; rfl)
      exact W.widen (Nat.le_of_ble_eq_true h2) (Nat.le_of_ble_eq_true h3) (vx_ret (W.zret hx' hb (hret.trans (w1 rfl)) (by rw [hz]; rfl) (fun t ht _ => fin t ht) hS.2.2 d1 hlocks))
    · have hz : i = 1 := Int32.toInt_inj.mp (by rw [i2, hz]; rfl)
      exact W.widen (Nat.le_of_ble_eq_true h2) (Nat.le_of_ble_eq_true h3) (vx_ret (W.zret hx' hb (hret.trans (w1 rfl)) (by rw [hz]; rfl) (fun t ht _ => fin t ht) hS.2.2 d1 hlocks))
  · intro ws ad H locs ls st hPw hgh hM hx hR
    obtain ⟨ia, ib, ec⟩ := pt_is6 h1
    obtain ⟨d1, -, -, d4, -⟩ := htab _ _ _ _ _ ec
    obtain ⟨-, w1⟩ := d4
    obtain ⟨hWd, hS, hLL, hSt⟩ := hR.wd
    obtain ⟨i, t, rfl, i1, i2, i3⟩ := ai_gF.long hSt
    have ht : t = [] := by
      cases t with
      | nil => rfl
      | cons w t => exact i3.elim
    subst ht
    refine W.widen (Nat.le_of_ble_eq_true h2) (Nat.le_of_ble_eq_true h3) (vx_ret (W.lret hx' hb (hret.trans w1) (fun t ht _ => ?_) hS.2.2 d1 hlocks))
    refine ⟨some i.toInt, r, M, ws, ?_, by rw [i2]; exact h4, hPw, hgh, hM, by rw [ht]; exact pt_back hs.2 hx hWd, hS.F ht⟩
    subst e1
    exact ⟨i, rfl, rfl⟩
  · intro ws ad H locs ls st hPw hgh hM hx hR
    obtain ⟨ia, ib, ec⟩ := pt_is7 h1
    obtain ⟨d1, -, -, d4, -⟩ := htab _ _ _ _ _ ec
    obtain ⟨-, w1⟩ := d4
    obtain ⟨hWd, hS, hLL, hSt⟩ := hR.wd
    have ht : st = [] := by
      cases st with
      | nil => rfl
      | cons w t => exact hSt.elim
    subst ht
    refine W.widen (Nat.le_of_ble_eq_true h2) (Nat.le_of_ble_eq_true h3) (vx_ret (W.vret hx' hb (hret.trans w1) (fun t ht _ => ?_) hS.2.2 d1 hlocks))
    refine ⟨none, r, M, ws, ?_, h4, hPw, hgh, hM, by rw [ht]; exact pt_back hs.2 hx hWd, hS.F ht⟩
    subst e1
    exact ⟨rfl, rfl⟩
end PTH
/-- a method's contract out of what holds of every such predicate -/
theorem pt_intro {n mi : Nat} {Y : pt_Y} {aa L0 : List ai_V} {rt : Nat} {Pre : (Nat → Int) → (Nat → Nat → Int) → Prop} {Post : (Nat → Int) → (Nat → Nat → Int) → (Nat → Int) → (Nat → Nat → Int) → Option Int → Prop} (hpl : lh_plain mi = true) (hn : 4 ≤ n) (hs : pt_sys Y) (hL0 : ai_pad (ct_mt mi).2.2.1 aa = some L0)
    (body : ∀ (P : pt_P) (r : Nat → Int) (M : Nat → Nat → Int), pt_Cl n mi Y rt (Post r M) P → Pre r M → P (0, 0, 0) L0 [] r M) : pt_Met (n + 1) mi Y aa Pre Post rt := by
  intro l D tyc A sa hl ws r ad H0 As M hPw hM hpre hWd hA
  have h336 : Y.2.1.1 = 336 := by
    have hwf := hs.2
    unfold pt_wf at hwf
    simp only [Bool.and_eq_true] at hwf
    exact Nat.eq_of_beq_eq_true hwf.2.1
  refine lh_met hpl L0 hL0 hWd (by rw [← h336] at hA; exact hA) (fun p e s m below meth c ls F hret hH hR => ?_)
  exact body _ r M (pt_W_cl (p := p) (l := l) (e := e) (below := below) (ws0 := ws) (ad0 := ad) hpl F hret hl hn hs) hpre ws ad s.heap [] ls [] hPw pt_gh.rf hM ai_ext.rfl' hR
theorem pt_m0 {α : Type} {p : α → Prop} : ∀ x ∈ ([] : List α), p x := fun x hx => by
  cases hx
theorem pt_m1 {α : Type} {p : α → Prop} {a : α} (h : p a) : ∀ x ∈ [a], p x := fun x hx => by
  rcases List.mem_cons.mp hx with rfl | hx
  · exact h
  · cases hx
theorem pt_m2 {α : Type} {p : α → Prop} {a b : α} (h1 : p a) (h2 : p b) : ∀ x ∈ [a, b], p x := fun x hx => by
  rcases List.mem_cons.mp hx with rfl | hx
  · exact h1
  · exact pt_m1 h2 x hx
theorem pt_m3 {α : Type} {p : α → Prop} {a b c : α} (h1 : p a) (h2 : p b) (h3 : p c) : ∀ x ∈ [a, b, c], p x := fun x hx => by
  rcases List.mem_cons.mp hx with rfl | hx
  · exact h1
  · exact pt_m2 h2 h3 x hx
theorem pt_m4 {α : Type} {p : α → Prop} {a b c d : α} (h1 : p a) (h2 : p b) (h3 : p c) (h4 : p d) : ∀ x ∈ [a, b, c, d], p x := fun x hx => by
  rcases List.mem_cons.mp hx with rfl | hx
  · exact h1
  · exact pt_m3 h2 h3 h4 x hx
