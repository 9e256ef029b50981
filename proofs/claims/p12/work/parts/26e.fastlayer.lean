/-! LAYERS, LAID OUT FOR THE KERNEL -/
noncomputable def fl_meth (prog : Nat → Option fr_M) (tab : Nat → Option us_C) (cbud : Nat → Nat × Nat) (dflt : Nat → List ai_V) (kind : Nat → Nat → Nat) (fuel : Nat) (d : Nat) : Nat → List ai_V → ai_G → ai_Q := Nat.rec (motive := fun _ => Nat → List ai_V → ai_G → ai_Q) (fun _ _ _ => none) (fun _ ih mi args G => fr_enter cbud dflt kind fuel (ly_call tab ih) args G (prog mi)) d
theorem fl_meth_eq {prog : Nat → Option fr_M} {tab : Nat → Option us_C} {cbud : Nat → Nat × Nat} {dflt : Nat → List ai_V} {kind : Nat → Nat → Nat} {fuel : Nat} (hnx : ∀ mi q, prog mi = some q → fr_nx q.2.1) : ∀ (d mi : Nat) (args : List ai_V) (G : ai_G), fl_meth prog tab cbud dflt kind fuel d mi args G = ly_meth (fun m => (prog m).map fr_unM) tab cbud dflt kind fuel d mi args G := by
  intro d
  induction d with
  | zero => intros; rfl
  | succ d ih =>
    intro mi args G
    have e0 : fl_meth prog tab cbud dflt kind fuel d = ly_meth (fun m => (prog m).map fr_unM) tab cbud dflt kind fuel d := by
      funext a b c
      exact ih a b c
    show fr_enter cbud dflt kind fuel (ly_call tab (fl_meth prog tab cbud dflt kind fuel d)) args G (prog mi) = _
    rw [e0]
    unfold ly_meth fr_enter
    cases eq : prog mi with
    | none => rfl
    | some q =>
      have hq := hnx mi q eq
      obtain ⟨nl, code, hand, bud, ann⟩ := q
      dsimp only [Option.map, fr_unM]
      cases ai_pad nl args with
      | none => rfl
      | some L => exact fr_run_eq hq _ _ _ _ _ _ _
/-- ends that a method comes to, as few wider ones: an evaluation gives a contract of the next layer -/
noncomputable def fl_get (C : us_C) (q : ai_Q) : Bool := match q with
  | none => false
  | some outs => outs.all (fun f => sm_any (sm_E (1, [], []) C.1) f C.2.2.2) && C.2.2.2.all (sm_ok (sm_E (1, [], []) C.1))
theorem fl_ok {l : Launch} {D : va_G} {tyc : Nat → ClassId} {A : Nat → Prop} {sa : ai_B} {strs : List ai_Z} {nws Wg : List Cond} {mt : Nat → ai_MT} {prog : Nat → Option fr_M} {cbud : Nat → Nat × Nat} {dflt : Nat → List ai_V} {kind : Nat → Nat → Nat} {fuel : Nat} {tab : Nat → Option us_C} {Bn B1 D1 : Nat} (hB : B1 + D1 ≤ Bn) (htbl : ∀ mi C, tab mi = some C → us_ck C = true ∧ ai_mok Wg (mt mi) ∧ ai_Ct l D tyc A sa strs nws Wg (mt mi) (ly_rm B1 cbud D1 mi) C.2.1 (sm_E (1, [], []) C.1, C.2.2.1, 0, 0) (C.2.2.2.map (sm_out (sm_E (1, [], []) C.1))))
    (hl : l.stackTraces = false) (hgood : ∀ w ∈ Wg, goodWord w = true) (hnk : ∀ w ∈ nws, ai_nk w = true) (hcls : ∀ ci, ci < 13 → ai_cls Wg dflt kind ci) (hprog : ∀ mi nl code hand bud ann, (prog mi).map fr_unM = some (nl, code, hand, bud, ann) → ai_Pm Wg nws strs mt cbud mi nl code hand bud ann) (hnx : ∀ mi q, prog mi = some q → fr_nx q.2.1)
    {d mi : Nat} {C : us_C} (h : fl_get C (fl_meth prog tab cbud dflt kind fuel d mi C.2.1 (sm_E (1, [], []) C.1, C.2.2.1, 0, 0)) = true) : ai_mok Wg (mt mi) ∧ ai_Ct l D tyc A sa strs nws Wg (mt mi) (ly_rm Bn cbud d mi) C.2.1 (sm_E (1, [], []) C.1, C.2.2.1, 0, 0) (C.2.2.2.map (sm_out (sm_E (1, [], []) C.1))) := by
  unfold fl_get at h
  split at h
  · cases h
  · rename_i outs e
    rw [Bool.and_eq_true] at h
    rw [fl_meth_eq hnx] at e
    exact ⟨ly_mok hprog e, sm_join rfl (ly_meth_ok hB htbl hl hgood hnk hcls hprog d mi _ _ _ e) h.1 h.2⟩
