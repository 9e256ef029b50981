/-! PURE TRANSITIONS (4): calls, ends, a method's contract -/
noncomputable def pt_xr (x : ai_X) : pt_X := match x.1 with
  | 0 => [(1, 0, x.2)]
  | t + 1 => match ai_eq x.2 0 with
    | true => [(0, t + 1, 0)]
    | false => [(0, t + 1, 0), (3, 0, x.2)]
theorem pt_xr_ok {r : Nat → Int} (h0 : r 0 = 0) (x : ai_X) : pt_v r (pt_xr x) = ai_vx r x := by
  obtain ⟨t, c⟩ := x
  unfold pt_xr
  cases t with
  | zero =>
    show c = r 0 + c
    rw [h0, Int.zero_add]
  | succ t =>
    dsimp only
    cases e : ai_eq c 0 with
    | true =>
      have e := ai_eq_iff.mp e
      subst e
      show r (t + 1) = r (t + 1) + 0
      rw [Int.add_zero]
    | false => rfl
/-- the numbers that a called method's locals get -/
noncomputable def pt_wc : List ai_V → List ai_V → List (Nat × pt_X)
  | a :: l, b :: m => (match a, b with
    | .inl x, .inl y => (y.1, pt_xr x) :: pt_wc l m
    | _, _ => pt_wc l m)
  | _, _ => []
noncomputable def pt_wl (u : Nat) : List (Nat × pt_X) → Option pt_X
  | [] => none
  | q :: W => match Nat.beq u q.1 with
    | true => some q.2
    | false => pt_wl u W
noncomputable def pt_aok (Y : pt_Y) (W : List (Nat × pt_X)) : List ai_V → List ai_V → Bool
  | [], [] => true
  | a :: l, b :: m => (match a, b with
    | .inl x, .inl y => ai_eq y.2 0 && (Nat.blt x.1 Y.1.1 && (Nat.blt y.1 Y.1.1 && (Nat.ble Y.2.2.2 y.1 && (pt_bdq Y.1 y.1 (ai_lo32, ai_hi32) && decide (pt_wl y.1 W = some (pt_xr x))))))
    | .inr (.inr (some (some q))), .inr (.inr (some (some q'))) => Nat.beq q q' && Nat.blt q 336
    | _, _ => false) && pt_aok Y W l m
  | _, _ => false
theorem pt_up_wl {r : Nat → Int} : ∀ {W : List (Nat × pt_X)} {u : Nat}, (∃ x, pt_wl u W = some x ∧ pt_up r W u = pt_v r x) ∨ (pt_wl u W = none ∧ pt_up r W u = r u)
  | [], u => Or.inr ⟨rfl, rfl⟩
  | q :: W, u => by
    unfold pt_wl pt_up
    cases e : Nat.beq u q.1 with
    | true =>
      rw [if_pos (Nat.eq_of_beq_eq_true e)]
      exact Or.inl ⟨_, rfl, rfl⟩
    | false =>
      rw [if_neg (Nat.ne_of_beq_eq_false e)]
      exact pt_up_wl
theorem pt_wl_mem {u : Nat} {x : pt_X} : ∀ {W : List (Nat × pt_X)}, pt_wl u W = some x → (u, x) ∈ W
  | [], h => by cases h
  | q :: W, h => by
    unfold pt_wl at h
    cases e : Nat.beq u q.1 with
    | true =>
      rw [e] at h
      cases h
      rw [Nat.eq_of_beq_eq_true e]
      exact List.mem_cons_self
    | false =>
      rw [e] at h
      exact List.mem_cons_of_mem _ (pt_wl_mem h)
theorem pt_wc_ge {Y : pt_Y} {W : List (Nat × pt_X)} : ∀ {aa bb : List ai_V}, pt_aok Y W aa bb = true → ∀ q ∈ pt_wc aa bb, Y.2.2.2 ≤ q.1 ∧ ∃ x : ai_X, q.2 = pt_xr x
  | [], [], _, q, hq => by cases hq
  | [], _ :: _, h, _, _ => by cases h
  | _ :: _, [], h, _, _ => by cases h
  | a :: l, b :: m, h, q, hq => by
    unfold pt_aok at h
    rw [Bool.and_eq_true] at h
    have ih := pt_wc_ge h.2 q
    unfold pt_wc at hq
    rcases a with x | a
    · rcases b with y | b
      · have h1 := h.1
        dsimp only at h1 hq
        simp only [Bool.and_eq_true] at h1
        rcases List.mem_cons.mp hq with rfl | hq
        · exact ⟨Nat.le_of_ble_eq_true h1.2.2.2.1, x, rfl⟩
        · exact ih hq
      · exact ih hq
    · exact ih hq
section PTF
variable {r : Nat → Int} {ad : Nat → Nat} {Y : pt_Y}
/-- arguments, told as the called method has them -/
theorem pt_args {N : Nat} {W : List (Nat × pt_X)} {r2 : Nat → Int} (h0 : r 0 = 0) (hN : N = Y.1.1) (hup : ∀ u x, pt_wl u W = some x → r2 u = pt_v r x) : ∀ {aa bb : List ai_V} {As : List Value}, pt_aok Y W aa bb = true → ai_gF r ad N 336 aa As → ai_gF r2 ad Y.1.1 336 bb As
  | [], [], As, _, g => by
    cases As with
    | nil => exact trivial
    | cons _ _ => exact g.elim
  | [], _ :: _, _, h, _ => by cases h
  | _ :: _, [], _, h, _ => by cases h
  | a :: l, b :: m, As, h, g => by
    unfold pt_aok at h
    rw [Bool.and_eq_true] at h
    cases As with
    | nil => exact g.elim
    | cons v As =>
      refine ⟨?_, pt_args h0 hN hup h.2 g.2⟩
      have h1 := h.1
      have g1 := g.1
      rcases a with x | x | _ | _ | q
      · rcases b with y | b
        · dsimp only at h1
          simp only [Bool.and_eq_true, decide_eq_true_eq] at h1
          obtain ⟨e1, e2, e3, e4, e5, e6⟩ := h1
          obtain ⟨w1, i, w2, w3⟩ := g1
          have e1 := ai_eq_iff.mp e1
          refine ⟨Nat.le_of_ble_eq_true e3, i, w2, ?_⟩
          show i.toInt = r2 y.1 + y.2
          rw [e1, Int.add_zero, hup _ _ e6, pt_xr_ok h0 x]
          exact w3
        · cases h1
      · cases h1
      · cases h1
      · cases h1
      · rcases b with y | y | _ | _ | q'
        · cases h1
        · cases h1
        · cases h1
        · cases h1
        · dsimp only at h1
          rw [Bool.and_eq_true] at h1
          have e := Nat.eq_of_beq_eq_true h1.1
          subst e
          exact g1
theorem pt_i32 {N : Nat} {W : List (Nat × pt_X)} (h0 : r 0 = 0) : ∀ {aa bb : List ai_V} {As : List Value}, pt_aok Y W aa bb = true → ai_gF r ad N 336 aa As → ∀ q ∈ pt_wc aa bb, (ai_lo32 ≤ pt_v r q.2 ∧ pt_v r q.2 ≤ ai_hi32) ∧ pt_bdq Y.1 q.1 (ai_lo32, ai_hi32) = true
  | [], [], _, _, _, q, hq => by cases hq
  | [], _ :: _, _, h, _, _, _ => by cases h
  | _ :: _, [], _, h, _, _, _ => by cases h
  | a :: l, b :: m, As, h, g, q, hq => by
    unfold pt_aok at h
    rw [Bool.and_eq_true] at h
    cases As with
    | nil => exact g.elim
    | cons v As =>
      have ih := pt_i32 h0 h.2 g.2 q
      unfold pt_wc at hq
      rcases a with x | a
      · rcases b with y | b
        · have h1 := h.1
          have g1 := g.1
          dsimp only at h1 hq
          simp only [Bool.and_eq_true] at h1
          rcases List.mem_cons.mp hq with rfl | hq
          · obtain ⟨w1, i, w2, w3⟩ := g1
            refine ⟨?_, h1.2.2.2.2.1⟩
            show ai_lo32 ≤ pt_v r (pt_xr x) ∧ pt_v r (pt_xr x) ≤ ai_hi32
            rw [pt_xr_ok h0 x, ← w3]
            exact ai_i32 i
          · exact ih hq
        · exact ih hq
      · exact ih hq
end PTF
/-- the numbers behind a call -/
noncomputable def pt_mrg (NL : Nat) (r r2 : Nat → Int) (z : Nat) (v : Option Int) : Nat → Int := fun t => if t < NL then r2 t else match v with
  | some x => if t = z then x else r t
  | none => r t
noncomputable def pt_psh (rt z : Nat) (S : List ai_V) : List ai_V := match rt with
  | 0 => S
  | 1 => .inl (z, 0) :: S
  | _ => .inr (.inl (z, 0)) :: S
noncomputable def pt_cck (Y : pt_Y) (mi mj : Nat) (k : Nat × Nat × Nat) (rt z : Nat) (L S' aa bb : List ai_V) : Bool := (pt_aok Y (pt_wc aa bb) aa bb && (Nat.blt mj 1000 && (Nat.ble (k.2.1 + (ct_bud mj).1) (ct_bud mi).1 && Nat.ble (k.2.2 + (ct_bud mj).2) (ct_bud mi).2))) && ((pt_yH (pt_glo Y.2.2.2) Y.2.1 && (L.all (pt_yV (pt_loc Y.2.2.2 z)) && S'.all (pt_yV (pt_loc Y.2.2.2 z)))) && ((Nat.blt 0 Y.2.2.2 && (Nat.ble Y.2.2.2 z && Nat.blt z Y.1.1)) && (match rt with
  | 0 => true
  | 1 => pt_bdq Y.1 z (ai_lo32, ai_hi32)
  | _ => pt_bdq Y.1 z (ai_lo64, ai_hi64))))
section PTG
variable {p : Program} {l : Launch} {e : Env} {s : State} {m : MethodId} {args : Array Value} {below : List Frame} {meth : Method} {c : Code} {Q : State → Prop}
variable {D : va_G} {tyc : Nat → ClassId} {A : Nat → Prop} {sa : ai_B} {ws0 : va_W} {ad0 : Nat → Nat} {n mi mj : Nat} {Y : pt_Y}
variable {k : Nat × Nat × Nat} {L S S' aa bb : List ai_V} {r : Nat → Int} {M : Nat → Nat → Int} {rt z : Nat}
variable {Pre : (Nat → Int) → (Nat → Nat → Int) → Prop} {Post : (Nat → Int) → (Nat → Nat → Int) → (Nat → Int) → (Nat → Nat → Int) → Option Int → Prop}
/-- what the called method is given -/
theorem pt_into {ad : Nat → Nat} {H : Heap} {ws : va_W} {As : List Value} (hs : pt_sys Y) (hl : l.stackTraces = false) (hck : pt_cck Y mi mj k rt z L S' aa bb = true) (hPw : ai_Pw tyc ws) (hM : pt_M tyc Y.2.2.1 ws M) (hMet : pt_Met n mj Y bb Pre Post rt) (hpre : Pre (pt_up r (pt_wc aa bb)) M) (gA : ai_gF r ad Y.1.1 336 aa As) (hWd : ai_Wd D tyc A sa ws r ad (Y.1, Y.2.1, 0, 0) H) :
    vx_Met l (ct_mt mj).1 (ai_cw (ct_mt mj) :: ft_W) (lt_rm n mj) (fun a U => a = As.toArray ∧ U.heap = H ∧ ai_St D tyc A sa ct_strs ft_N U ∧ ∀ q, H.size ≤ q → A q) (pt_Q D tyc A sa ws ad Y (Post (pt_up r (pt_wc aa bb)) M) rt) (fun _ _ _ => False) (lt_rm n mj).cells (lt_rm n mj).slots A := by
  obtain ⟨hun, hwf⟩ := hs
  unfold pt_cck at hck
  simp only [Bool.and_eq_true] at hck
  obtain ⟨⟨c1, c2, c3, c4⟩, ⟨c5, c6, c7⟩, ⟨c8, c9, c10⟩, c11⟩ := hck
  have hE : ai_gE r Y.1 := hWd.env
  have h0 : r 0 = 0 := hE.1
  have hge := pt_wc_ge c1
  have hup : ∀ u x, pt_wl u (pt_wc aa bb) = some x → pt_up r (pt_wc aa bb) u = pt_v r x := fun u x hx => by
    rcases pt_up_wl (r := r) (W := pt_wc aa bb) (u := u) with ⟨y, y1, y2⟩ | ⟨y1, y2⟩
    · rw [hx] at y1
      cases y1
      exact y2
    · rw [hx] at y1
      cases y1
  have hlo : ∀ u, u < Y.2.2.2 → pt_up r (pt_wc aa bb) u = r u := fun u hu => by
    rcases pt_up_wl (r := r) (W := pt_wc aa bb) (u := u) with ⟨y, y1, y2⟩ | ⟨y1, y2⟩
    · have := (hge _ (pt_wl_mem y1)).1
      have : Y.2.2.2 ≤ u := this
      omega
    · exact y2
  have hE2 : ai_gE (pt_up r (pt_wc aa bb)) Y.1 := pt_gE2 hun hE ((hlo 0 (Nat.le_of_ble_eq_true c8)).trans h0) (fun u hu => by
    rcases pt_up_wl (r := r) (W := pt_wc aa bb) (u := u) with ⟨y, y1, y2⟩ | ⟨y1, y2⟩
    · obtain ⟨b1, b2⟩ := pt_i32 h0 c1 gA _ (pt_wl_mem y1)
      have b3 := pt_bdq_ok b2
      rw [y2]
      refine Or.inr ⟨?_, ?_, ai_small32 b1⟩
      · exact Int.le_trans b3.1 b1.1
      · exact Int.le_trans b1.2 b3.2
    · exact Or.inl y2)
  have W2 := pt_wd (c2 := 0) (s2 := 0) hwf c5 (fun t ht => hlo t (Nat.le_of_ble_eq_true ht)) hE2 hWd
  exact hMet l D tyc A sa hl ws _ ad H As M hPw hM hpre W2 (pt_args h0 rfl hup c1 gA)
theorem pt_outof {ad : Nat → Nat} {ws : va_W} {H : Heap} {locs : List Loc} {ls : Array Slot} {st : List Value} {T st0 : State} {v : Option Value} {rest : List Value} {locs1 : List Loc} {a : Array Value} (hs : pt_sys Y) (hck : pt_cck Y mi mj k rt z L S' aa bb = true) (hgh : pt_gh Y.2.2.1 ws0 ws) (hx : ai_ext 336 ad0 ad)
    (hR : ai_Rel D tyc A s sa ws (ct_mt mi).2.2.1 r ad L S (Y.1, Y.2.1, k.2.1, k.2.2) H locs ls st) (hq : pt_Q D tyc A sa ws ad Y (Post (pt_up r (pt_wc aa bb)) M) rt a st0 (.returned v) T) (hrest : ai_gF r ad Y.1.1 336 S' rest) (hS1 : va_F A st0 T → va_S A s.heap T.heap locs1)
    (hk : ∀ r2 M2 v, Post (pt_up r (pt_wc aa bb)) M r2 M2 v → pt_W p l e s m args below meth c Q D tyc A sa ws0 ad0 n mi Y (k.1 + 3, k.2.1 + (lt_rm n mj).cells, k.2.2 + (lt_rm n mj).slots) L (pt_psh rt z S') (pt_mrg Y.2.2.2 r r2 z v) M2) :
    W p l e (lt_rm (n + 1) mi) s m args below meth c T.heap locs1 (k.2.1 + (lt_rm n mj).cells) (k.2.2 + (lt_rm n mj).slots) Q (F0 m (k.1 + 3) ls (v.toList ++ rest)) := by
  obtain ⟨hun, hwf⟩ := hs
  unfold pt_cck at hck
  simp only [Bool.and_eq_true] at hck
  obtain ⟨⟨c1, c2, c3, c4⟩, ⟨c5, c6, c7⟩, ⟨c8, c9, c10⟩, c11⟩ := hck
  have c8 := Nat.le_of_ble_eq_true c8
  have c9 := Nat.le_of_ble_eq_true c9
  have c10 : z < Y.1.1 := Nat.le_of_ble_eq_true c10
  obtain ⟨vv, r2, M2, ws2, o1, o2, o3, o4, o5, o6, o7⟩ := hq
  have hE : ai_gE r Y.1 := hR.env
  have hE2 : ai_gE r2 Y.1 := o6.env
  have h336 : Y.2.1.1 = 336 := by
    unfold pt_wf at hwf
    simp only [Bool.and_eq_true] at hwf
    exact Nat.eq_of_beq_eq_true hwf.2.1
  obtain ⟨-, -, hLL, -⟩ := hR.wd
  have mg : ∀ t, pt_glo Y.2.2.2 t = true → pt_mrg Y.2.2.2 r r2 z vv t = r2 t := fun t ht => if_pos (Nat.le_of_ble_eq_true ht)
  have ml : ∀ t, pt_loc Y.2.2.2 z t = true → pt_mrg Y.2.2.2 r r2 z vv t = r t := fun t ht => by
    unfold pt_loc at ht
    rw [Bool.or_eq_true, Bool.and_eq_true, Bool.not_eq_true'] at ht
    rcases ht with ht | ⟨h1, h2⟩
    · have ht := Nat.eq_of_beq_eq_true ht
      subst ht
      rw [show pt_mrg Y.2.2.2 r r2 z vv 0 = r2 0 from if_pos c8, hE.1, hE2.1]
    · have h1 := Nat.le_of_ble_eq_true h1
      have h2 := Nat.ne_of_beq_eq_false h2
      unfold pt_mrg
      rw [if_neg (by omega)]
      cases vv with
      | none => rfl
      | some x => exact if_neg h2
  have hval : (rt = 0 ∧ v = none ∧ vv = none) ∨ (rt = 1 ∧ ∃ i : Int32, v = some (.int i) ∧ vv = some i.toInt) ∨ (rt ≠ 0 ∧ rt ≠ 1 ∧ ∃ i : Int64, v = some (.long i) ∧ vv = some i.toInt) := by
    unfold pt_out at o1
    split at o1
    · obtain ⟨q1, q2⟩ := o1
      cases q1
      exact Or.inl ⟨rfl, rfl, q2⟩
    · obtain ⟨i, q1, q2⟩ := o1
      cases q1
      exact Or.inr (Or.inl ⟨rfl, i, rfl, q2⟩)
    · rename_i n0 n1
      obtain ⟨i, q1, q2⟩ := o1
      cases q1
      exact Or.inr (Or.inr ⟨n0, n1, i, rfl, q2⟩)
  have hz : ∀ x, vv = some x → pt_mrg Y.2.2.2 r r2 z vv z = x := fun x hx => by
    unfold pt_mrg
    rw [if_neg (by omega), hx]
    exact if_pos rfl
  have hEm : ai_gE (pt_mrg Y.2.2.2 r r2 z vv) Y.1 := pt_gE2 hun hE2 (by rw [mg 0 (Nat.ble_eq_true_of_le c8)]; exact hE2.1) (fun t ht => by
    by_cases q : t < Y.2.2.2
    · exact Or.inl (mg t (Nat.ble_eq_true_of_le q))
    · by_cases q2 : t = z
      · subst q2
        rcases hval with ⟨e1, e2, e3⟩ | ⟨e1, i, e2, e3⟩ | ⟨e1, e2, i, e3, e4⟩
        · refine Or.inr ?_
          rw [show pt_mrg Y.2.2.2 r r2 t vv t = r t from by
            unfold pt_mrg
            rw [if_neg q, e3]]
          exact pt_look_ok hE ht
        · subst e1
          rw [hz _ e3]
          have b := pt_bdq_ok c11
          have w := ai_i32 i
          exact Or.inr ⟨Int.le_trans b.1 w.1, Int.le_trans w.2 b.2, ai_small32 w⟩
        · rw [hz _ e4]
          split at c11
          · exact absurd rfl e1
          · exact absurd rfl e2
          · have b := pt_bdq_ok c11
            have w := ai_i64 i
            exact Or.inr ⟨Int.le_trans b.1 w.1, Int.le_trans w.2 b.2, w⟩
      · refine Or.inr ?_
        rw [ml t (by
          unfold pt_loc
          have e1 : Nat.ble Y.2.2.2 t = true := Nat.ble_eq_true_of_le (by omega)
          have e2 : Nat.beq t z = false := by
            cases eb : Nat.beq t z with
            | false => rfl
            | true => exact absurd (Nat.eq_of_beq_eq_true eb) q2
          rw [e1, e2]
          cases Nat.beq t 0 <;> rfl)]
        exact pt_look_ok hE ht)
  have W3 := pt_wd (c2 := k.2.1 + (lt_rm n mj).cells) (s2 := k.2.2 + (lt_rm n mj).slots) hwf c5 mg hEm o6
  have hstk : ai_gF (pt_mrg Y.2.2.2 r r2 z vv) ad Y.1.1 336 (pt_psh rt z S') (v.toList ++ rest) := by
    have g := pt_gF2 ml c7 hrest
    rcases hval with ⟨e1, e2, e3⟩ | ⟨e1, i, e2, e3⟩ | ⟨e1, e2, i, e3, e4⟩
    · subst e1 e2
      exact g
    · subst e1 e2
      exact ⟨⟨c10, i, rfl, by
        show i.toInt = pt_mrg Y.2.2.2 r r2 z vv z + 0
        rw [hz _ e3, Int.add_zero]⟩, g⟩
    · subst e3
      have : pt_psh rt z S' = .inr (.inl (z, 0)) :: S' := by
        unfold pt_psh
        split
        · exact absurd rfl e1
        · exact absurd rfl e2
        · rfl
      rw [this]
      exact ⟨⟨c10, i, rfl, by
        show i.toInt = pt_mrg Y.2.2.2 r r2 z vv z + 0
        rw [hz _ e4, Int.add_zero]⟩, g⟩
  exact hk r2 M2 vv o2 ws2 ad T.heap locs1 ls (v.toList ++ rest) o3 (hgh.tr o4) o5 hx (W3.rel (hS1 o7) (pt_gL2 ml c6 hLL) (by rw [← h336] at hstk; exact hstk))
theorem pt_callv_ok (hpl : lh_plain mi = true) (hplj : lh_plain mj = true) (F : ls_Fr p (lt_rm (n + 1) mi) s m args meth c D tyc A sa mi) (hl : l.stackTraces = false) (hs : pt_sys Y) (hv : cy_vk mi k.1 mj Y.2.1 S aa S' = true) (hck : pt_cck Y mi mj k rt z L S' aa bb = true) (hMet : pt_Met n mj Y bb Pre Post rt) (hpre : Pre (pt_up r (pt_wc aa bb)) M)
    (hk : ∀ r2 M2 v, Post (pt_up r (pt_wc aa bb)) M r2 M2 v → pt_W p l e s m args below meth c Q D tyc A sa ws0 ad0 n mi Y (k.1 + 3, k.2.1 + (lt_rm n mj).cells, k.2.2 + (lt_rm n mj).slots) L (pt_psh rt z S') (pt_mrg Y.2.2.2 r r2 z v) M2) :
    pt_W p l e s m args below meth c Q D tyc A sa ws0 ad0 n mi Y k L S r M := by
  intro ws ad H locs ls st hPw hgh hM hx hR
  have h336 : Y.2.1.1 = 336 := by
    have hwf := hs.2
    unfold pt_wf at hwf
    simp only [Bool.and_eq_true] at hwf
    exact Nat.eq_of_beq_eq_true hwf.2.1
  have hck' := hck
  unfold pt_cck at hck'
  simp only [Bool.and_eq_true] at hck'
  obtain ⟨⟨-, c2, c3, c4⟩, -⟩ := hck'
  obtain ⟨idx, b, ec, hv⟩ := cy_vk_ok hv
  refine lh_callv (G := (Y.1, Y.2.1, k.2.1, k.2.2)) hpl hplj (Nat.le_of_ble_eq_true c2) F ec hv hR ⟨Nat.le_of_ble_eq_true c3, Nat.le_of_ble_eq_true c4⟩ (fun As gA hWd => pt_into hs hl hck hPw hM hMet hpre (by rw [← h336]; exact gA) hWd) (fun a st0 T v rest locs1 h0 hq hrest hS1 => pt_outof (p := p) (l := l) (e := e) (m := m) (args := args) (below := below) (meth := meth) (c := c) (Q := Q) hs hck hgh hx hR hq (by rw [← h336]; exact hrest) hS1 hk)
theorem pt_calls_ok (hpl : lh_plain mi = true) (hplj : lh_plain mj = true) (F : ls_Fr p (lt_rm (n + 1) mi) s m args meth c D tyc A sa mi) (hl : l.stackTraces = false) (hs : pt_sys Y) (hv : pt_sk mi k.1 mj S aa S' = true) (hck : pt_cck Y mi mj k rt z L S' aa bb = true) (hlk : (ct_mt mj).2.2.2.2.1.isSome = true ∨ (∀ idx, ls_code mi k.1 = some (.invokestatic idx, 3, mj, (ct_mt mj).2.2.2.2.2) → Cond.methodLink (ct_mt mi).1.cls idx (ct_mt mj).1 ∈ ft_W)) (hMet : pt_Met n mj Y bb Pre Post rt) (hpre : Pre (pt_up r (pt_wc aa bb)) M)
    (hk : ∀ r2 M2 v, Post (pt_up r (pt_wc aa bb)) M r2 M2 v → pt_W p l e s m args below meth c Q D tyc A sa ws0 ad0 n mi Y (k.1 + 3, k.2.1 + (lt_rm n mj).cells, k.2.2 + (lt_rm n mj).slots) L (pt_psh rt z S') (pt_mrg Y.2.2.2 r r2 z v) M2) :
    pt_W p l e s m args below meth c Q D tyc A sa ws0 ad0 n mi Y k L S r M := by
  intro ws ad H locs ls st hPw hgh hM hx hR
  have h336 : Y.2.1.1 = 336 := by
    have hwf := hs.2
    unfold pt_wf at hwf
    simp only [Bool.and_eq_true] at hwf
    exact Nat.eq_of_beq_eq_true hwf.2.1
  have hck' := hck
  unfold pt_cck at hck'
  simp only [Bool.and_eq_true] at hck'
  obtain ⟨⟨-, c2, c3, c4⟩, -⟩ := hck'
  obtain ⟨idx, b, ec, hv⟩ := pt_sk_ok hv
  unfold lh_plain at hpl hplj
  simp only [Bool.and_eq_true] at hpl hplj
  obtain ⟨-, htab⟩ := ls_known hpl.1
  obtain ⟨mok, -⟩ := ls_known hplj.1
  obtain ⟨d1, -, -, -, d5⟩ := htab k.1 _ _ _ _ ec
  have hwc : (3 : Nat) = 3 ∧ b = (ct_mt mj).2.2.2.2.2 ∧ Cond.static (ct_mt mj).1 ∈ ft_W ∧ Cond.methodLink (ct_mt mi).1.cls idx (ct_mt mj).1 ∈ ft_W := by
    obtain ⟨y1, y2, y3, y4⟩ := d5 (Nat.le_of_ble_eq_true c2)
    refine ⟨rfl, y2, y3, ?_⟩
    rcases hlk with hlk | hlk
    · rcases y4 with y4 | ⟨y4, -⟩
      · exact y4
      · rw [y4] at hlk
        cases hlk
    · exact hlk idx (by rw [ec, y2])
  refine hs_call0 (G := (Y.1, Y.2.1, k.2.1, k.2.2)) F (fun w hw => (List.mem_filter.mp hw).2) (fun w hw => (List.mem_filter.mp hw).2) hwc mok ⟨by show n + 0 + 8 + 1 ≤ n + 1 + 0 + 8; omega, by show 64 * (n + 0) + 400 + 64 ≤ 64 * (n + 1 + 0) + 400; omega⟩ d1 hv hR ⟨Nat.le_of_ble_eq_true c3, Nat.le_of_ble_eq_true c4⟩ (fun As gA hWd => pt_into (mi := mi) hs hl hck hPw hM hMet hpre (by rw [← h336]; exact gA) hWd) (fun a st0 T v rest locs1 h0 hq hrest hS1 => pt_outof (p := p) (l := l) (e := e) (m := m) (args := args) (below := below) (meth := meth) (c := c) (Q := Q) hs hck hgh hx hR hq (by rw [← h336]; exact hrest) hS1 hk)
end PTG
