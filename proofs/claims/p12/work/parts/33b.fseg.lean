/-! SEGMENTS, laid out for the kernel -/
abbrev fs_K : Type := Bool → Nat → List ai_V → List ai_V → ai_G → Option (List ai_F)
noncomputable def fs_many {α β : Type} (go : α → Option (List β)) (l : List α) : Option (List β) := List.rec (motive := fun _ => Option (List β)) (some []) (fun f l' _ => List.rec (motive := fun _ => Option (List β)) (go f) (fun f2 l2 _ => sg_many go (f :: f2 :: l2)) l') l
theorem fs_many_eq {α β : Type} {go : α → Option (List β)} {l : List α} : fs_many go l = sg_many go l := by
  cases l with
  | nil => rfl
  | cons f l => cases l with
    | nil =>
      show go f = (match go f with | none => none | some a => some (a ++ []))
      cases go f with
      | none => rfl
      | some a =>
        show some a = some (a ++ [])
        rw [List.append_nil]
    | cons f2 l2 => rfl
noncomputable def fs_ret (hand : Nat → Nat → Option (Nat × Nat)) (ih : fs_K) (pc pc' : Nat) (L S' : List ai_V) (c s : Nat) (f : ai_R × ai_G) : Option (List ai_F) := match f with
  | (r, (E, h, _, _)) => match r with
    | .inr none => ih false pc' L S' (E, h, c, s)
    | .inr (some v) => ih false pc' L (v :: S') (E, h, c, s)
    | .inl e => match hand pc e with
      | some (k, pcn) => ih false pcn (ai_lset L k (.inr (.inr none))) [] (E, h, c, s)
      | none => none
noncomputable def fs_call (hand : Nat → Nat → Option (Nat × Nat)) (bud : Nat × Nat) (cbud : Nat → Nat × Nat) (callee : Nat → List ai_V → ai_G → ai_Q) (ih : fs_K) (calm : List (ai_R × ai_G) → Bool) (pc : Nat) (L : List ai_V) (G : ai_G) (mi : Nat) (args S' : List ai_V) (pc' : Nat) : Option (List ai_F) := match G with
  | (E, h, c, s) => match cbud mi with
    | (bc, bs) => match Nat.ble (c + bc) bud.1, Nat.ble (s + bs) bud.2 with
      | true, true => match callee mi args (E, h, 0, 0) with
        | none => none
        | some outs => match calm outs with
          | false => none
          | true => fs_many (fs_ret hand ih pc pc' L S' (c + bc) (s + bs)) outs
      | _, _ => none
noncomputable def fs_do (hand : Nat → Nat → Option (Nat × Nat)) (bud : Nat × Nat) (cbud : Nat → Nat × Nat) (callee : Nat → List ai_V → ai_G → ai_Q) (ih : fs_K) (calm : List (ai_R × ai_G) → Bool) (pc : Nat) (L : List ai_V) (G : ai_G) (x : Option ai_S) : Option (List ai_F) := Option.rec (motive := fun _ => Option (List ai_F)) none (fun y => Sum.rec (motive := fun _ => Option (List ai_F)) (fun fs => fs_many (fun f => ih false f.1 f.2.1 f.2.2.1 f.2.2.2) fs) (fun z => Sum.rec (motive := fun _ => Option (List ai_F)) (fun q => fs_call hand bud cbud callee ih calm pc L G q.1 q.2.1 q.2.2.1 q.2.2.2) (fun _ => none) z) y) x
noncomputable def fs_at (hand : Nat → Nat → Option (Nat × Nat)) (bud : Nat × Nat) (cbud : Nat → Nat × Nat) (dflt : Nat → List ai_V) (kind : Nat → Nat → Nat) (callee : Nat → List ai_V → ai_G → ai_Q) (ih : fs_K) (pc : Nat) (L S : List ai_V) (G : ai_G) (q : fr_C) : Option (List ai_F) := Option.rec (motive := fun _ => Option (List ai_F)) none (fun q => Prod.rec (motive := fun _ => Option (List ai_F)) (fun j r => Prod.rec (motive := fun _ => Option (List ai_F)) (fun nx r => Prod.rec (motive := fun _ => Option (List ai_F)) (fun _ r => Prod.rec (motive := fun _ => Option (List ai_F)) (fun a b => fs_do hand bud cbud callee ih j.2.1.2.2 pc L G (j.2.1.1 bud dflt kind pc nx a b L S G)) r) r) r) q) q
noncomputable def fs_run (code : Nat → fr_C) (hand : Nat → Nat → Option (Nat × Nat)) (bud : Nat × Nat) (cbud : Nat → Nat × Nat) (dflt : Nat → List ai_V) (kind : Nat → Nat → Nat) (callee : Nat → List ai_V → ai_G → ai_Q) (stop : Nat → Bool) (n : Nat) : fs_K := Nat.rec (motive := fun _ => fs_K) (fun _ _ _ _ _ => none) (fun _ ih skip pc L S G => Bool.rec (motive := fun _ => Option (List ai_F)) (fs_at hand bud cbud dflt kind callee ih pc L S G (code pc)) (some [(pc, L, S, G)]) (Bool.rec (motive := fun _ => Bool) (stop pc) false skip)) n
noncomputable def sg_body (hand : Nat → Nat → Option (Nat × Nat)) (bud : Nat × Nat) (cbud : Nat → Nat × Nat) (dflt : Nat → List ai_V) (kind : Nat → Nat → Nat) (callee : Nat → List ai_V → ai_G → ai_Q) (ih : fs_K) (pc : Nat) (L S : List ai_V) (G : ai_G) (q : Option (ClassFile.Instr × Nat × Nat × Nat)) : Option (List ai_F) := match q with
  | none => none
  | some (i, len, a, b) => match ai_step i bud dflt kind pc (pc + len) a b L S G with
    | none => none
    | some (.inl fs) => sg_many (fun f => ih false f.1 f.2.1 f.2.2.1 f.2.2.2) fs
    | some (.inr (.inl (mi, args, S', pc'))) => match G with
      | (E, h, c, s) => match cbud mi with
        | (bc, bs) => match Nat.ble (c + bc) bud.1, Nat.ble (s + bs) bud.2 with
          | true, true => match callee mi args (E, h, 0, 0) with
            | none => none
            | some outs => match ai_calm i outs with
              | false => none
              | true => sg_many (fun f => match f with
                | (r, (E, h, _, _)) => match r with
                  | .inr none => ih false pc' L S' (E, h, c + bc, s + bs)
                  | .inr (some v) => ih false pc' L (v :: S') (E, h, c + bc, s + bs)
                  | .inl e => match hand pc e with
                    | some (k, pcn) => ih false pcn (ai_lset L k (.inr (.inr none))) [] (E, h, c + bc, s + bs)
                    | none => none) outs
          | _, _ => none
    | some (.inr (.inr _)) => none
section FSG
variable {code : Nat → fr_C} {hand : Nat → Nat → Option (Nat × Nat)} {bud : Nat × Nat} {cbud : Nat → Nat × Nat} {dflt : Nat → List ai_V} {kind : Nat → Nat → Nat} {callee : Nat → List ai_V → ai_G → ai_Q} {stop : Nat → Bool}
theorem sg_run_b {code : Nat → Option (ClassFile.Instr × Nat × Nat × Nat)} {n : Nat} {skip : Bool} {pc : Nat} {L S : List ai_V} {G : ai_G} : sg_run code hand bud cbud dflt kind callee stop (n + 1) skip pc L S G = (match (match skip with | true => false | false => stop pc) with
    | true => some [(pc, L, S, G)]
    | false => sg_body hand bud cbud dflt kind callee (sg_run code hand bud cbud dflt kind callee stop n) pc L S G (code pc)) := rfl
theorem fs_at_eq (hnx : fr_nx code) {ih : fs_K} {pc : Nat} {L S : List ai_V} {G : ai_G} : fs_at hand bud cbud dflt kind callee ih pc L S G (code pc) = sg_body hand bud cbud dflt kind callee ih pc L S G ((code pc).map fr_un) := by
  cases ec : code pc with
  | none => rfl
  | some q =>
    obtain ⟨⟨i, qq, hq⟩, nx, len, a, b⟩ := q
    subst hq
    have hn : nx = pc + len := hnx pc _ ec
    subst hn
    show fs_do hand bud cbud callee ih (ai_calm i) pc L G (ai_step i bud dflt kind pc (pc + len) a b L S G) = sg_body hand bud cbud dflt kind callee ih pc L S G (some (i, len, a, b))
    unfold sg_body
    dsimp only
    cases ai_step i bud dflt kind pc (pc + len) a b L S G with
    | none => rfl
    | some y =>
      rcases y with fs | ⟨mi, args, S', pc'⟩ | r
      · exact fs_many_eq
      · obtain ⟨E, h, c, s⟩ := G
        show fs_call hand bud cbud callee ih (ai_calm i) pc L (E, h, c, s) mi args S' pc' = _
        unfold fs_call
        dsimp only
        cases Nat.ble (c + (cbud mi).1) bud.1 <;> cases Nat.ble (s + (cbud mi).2) bud.2 <;> try rfl
        dsimp only
        cases callee mi args (E, h, 0, 0) with
        | none => rfl
        | some outs =>
          dsimp only
          cases ai_calm i outs with
          | false => rfl
          | true =>
            dsimp only
            refine fs_many_eq.trans (congrArg (fun g => sg_many g outs) (funext fun f => ?_))
            obtain ⟨r, E', h', c', s'⟩ := f
            rcases r with e | _ | v <;> rfl
      · rfl
theorem fs_run_eq (hnx : fr_nx code) : ∀ (n : Nat) (skip : Bool) (pc : Nat) (L S : List ai_V) (G : ai_G), fs_run code hand bud cbud dflt kind callee stop n skip pc L S G = sg_run (fun q => (code q).map fr_un) hand bud cbud dflt kind callee stop n skip pc L S G := by
  intro n
  induction n with
  | zero => intros; rfl
  | succ n ih =>
    intro skip pc L S G
    have e0 : fs_run code hand bud cbud dflt kind callee stop n = sg_run (fun q => (code q).map fr_un) hand bud cbud dflt kind callee stop n := by
      funext a b c d e
      exact ih a b c d e
    rw [sg_run_b]
    show Bool.rec (motive := fun _ => Option (List ai_F)) (fs_at hand bud cbud dflt kind callee (fs_run code hand bud cbud dflt kind callee stop n) pc L S G (code pc)) (some [(pc, L, S, G)]) (Bool.rec (motive := fun _ => Bool) (stop pc) false skip) = _
    rw [e0, fs_at_eq hnx]
    cases skip with
    | true => rfl
    | false =>
      show Bool.rec (motive := fun _ => Option (List ai_F)) _ (some [(pc, L, S, G)]) (stop pc) = (match stop pc with | true => some [(pc, L, S, G)] | false => _)
      cases stop pc <;> rfl
end FSG
