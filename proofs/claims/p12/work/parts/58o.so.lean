section LT0
variable {s : State} {D : va_G} {tyc : Nat → ClassId} {A : Nat → Prop} {sa : ai_B} {ws : va_W} {nL : Nat} {r : Nat → Int} {ad : Nat → Nat} {L S S' : List ai_V} {G : ai_G} {H : Heap} {locs : List Loc} {ls : Array Slot} {st : List Value} {v j pc : Nat} {o : List (Nat × ai_X)}
/-- a cell told in another way -/
theorem lx_cell {q : Nat} {c c' : ai_C} (hR : ai_Rel D tyc A s sa ws nL r ad L S G H locs ls st) (hq : 16 ≤ q) (hq2 : q < 512) (hc : ai_cell G.2.1 q = some c) (hcc : ∀ e, ai_gC tyc r ad G.1.1 G.2.1.1 c e → ai_gC tyc r ad G.1.1 G.2.1.1 c' e) : ai_Rel D tyc A s sa ws nL r ad L S (G.1, (G.2.1.1, ai_tset 9 G.2.1.2 q (some c')), G.2.2) H locs ls st := by
  obtain ⟨ws2, hP, hD, hS, hE, hH, hO, hsa, hL, hSt⟩ := hR
  have hn512 := hH.1.2.1
  refine ⟨ws2, hP, hD, hS, hE, ⟨hH.1, hH.2.1, fun k hk d hd => ?_, fun k hk hd => ?_⟩, fun k hk d hd => ?_, hsa, hL, hSt⟩
  · have hk : k + 16 < G.2.1.1 := hk
    have hd : ai_cell (G.2.1.1, ai_tset 9 G.2.1.2 q (some c')) (k + 16) = some d := hd
    rw [hg_cell hq2 (by omega)] at hd
    split at hd
    · rename_i ek
      cases hd
      obtain ⟨e, h1, h2⟩ := hH.2.2.1 k hk c (by rw [ek]; exact hc)
      exact ⟨e, h1, hcc e h2⟩
    · exact hH.2.2.1 k hk d hd
  · have hk : k + 16 < G.2.1.1 := hk
    have hd : ai_cell (G.2.1.1, ai_tset 9 G.2.1.2 q (some c')) (k + 16) = none := hd
    rw [hg_cell hq2 (by omega)] at hd
    split at hd
    · cases hd
    · exact hH.2.2.2 k hk hd
  · have hd : ai_cell (G.2.1.1, ai_tset 9 G.2.1.2 q (some c')) k = some d := hd
    rw [hg_cell hq2 (by omega)] at hd
    split at hd
    · omega
    · exact hO k hk d hd
end LT0
/-! overlays in their order -/
noncomputable def lx_fd (l : List (ai_X × ai_X)) (j : Int) : Option (ai_X × ai_X) := l.find? (fun q => ai_eq q.1.2 j)
noncomputable def lx_so (l : List (ai_X × ai_X)) : Option (List (ai_X × ai_X)) := match l.all (fun q => Nat.beq q.1.1 0) with
  | false => none
  | true => match lx_fd l 0 with
    | none => none
    | some a => match lx_fd l 1 with
      | none => none
      | some b => match lx_fd l 2 with
        | none => none
        | some c => match lx_fd l 3 with
          | none => none
          | some d => some [((0, .ofNat 0), a.2), ((0, .ofNat 1), b.2), ((0, .ofNat 2), c.2), ((0, .ofNat 3), d.2)]
theorem lx_ov {r : Nat → Int} {lo hi v : Int} {j : Nat} (h0 : r 0 = 0) : ∀ {l : List (ai_X × ai_X)} {a : ai_X × ai_X}, (∀ q ∈ l, q.1.1 = 0) → lx_fd l (j : Int) = some a → ai_ov r lo hi l j v → v = ai_vx r a.2
  | [], _, _, h, _ => by cases h
  | (i, x) :: l, a, hl, h, g => by
    have e0 : i.1 = 0 := hl (i, x) List.mem_cons_self
    have ei : ai_vx r i = i.2 := by
      show r i.1 + i.2 = i.2
      rw [e0, h0]
      exact Int.zero_add _
    unfold lx_fd at h
    rw [List.find?_cons] at h
    split at h
    · rename_i e
      cases h
      exact g.1 (ei.trans (ai_eq_iff.mp e))
    · rename_i e
      refine lx_ov h0 (fun q hq => hl q (List.mem_cons_of_mem _ hq)) h (g.2 (fun z => ?_))
      have : ai_eq i.2 (j : Int) = true := ai_eq_iff.mpr (ei.symm.trans z)
      have e : ai_eq i.2 (j : Int) = false := e
      rw [this] at e
      cases e
noncomputable def so_l (l : List (ai_X × ai_X)) : Nat → Nat → Option (List (ai_X × ai_X))
  | _, 0 => some []
  | j, n + 1 => match lx_fd l (.ofNat j) with
    | none => none
    | some a => match so_l l (j + 1) n with
      | none => none
      | some m => some (((0, .ofNat j), a.2) :: m)
theorem so_l_ok {r : Nat → Int} {lo hi v : Int} {i : Nat} (h0 : r 0 = 0) {l : List (ai_X × ai_X)} (hl : ∀ q ∈ l, q.1.1 = 0) (g : ai_ov r lo hi l i v) : ∀ {n j : Nat} {m : List (ai_X × ai_X)}, so_l l j n = some m → j ≤ i → i < j + n → ai_ov r lo hi m i v
  | 0, j, m, h, h1, h2 => absurd h2 (by omega)
  | n + 1, j, m, h, h1, h2 => by
    unfold so_l at h
    split at h
    · cases h
    · rename_i a ea
      split at h
      · cases h
      · rename_i m' em
        cases h
        have z : ai_vx r (0, Int.ofNat j) = (j : Int) := by
          show r 0 + (j : Int) = j
          rw [h0]
          exact Int.zero_add _
        refine ⟨fun e => ?_, fun e => ?_⟩
        · rw [z] at e
          have e : j = i := by omega
          subst e
          exact lx_ov h0 hl ea g
        · rw [z] at e
          exact so_l_ok h0 hl g em (by omega) (by omega)
theorem so_l_lw {N : Nat} (hN : 0 < N) {l : List (ai_X × ai_X)} (hw : ai_lw N l) : ∀ {n j : Nat} {m : List (ai_X × ai_X)}, so_l l j n = some m → ai_lw N m
  | 0, j, m, h => by
    cases h
    intro q hq
    cases hq
  | n + 1, j, m, h => by
    unfold so_l at h
    split at h
    · cases h
    · rename_i a ea
      split at h
      · cases h
      · rename_i m' em
        cases h
        intro q hq
        rcases List.mem_cons.mp hq with rfl | hq
        · exact ⟨hN, (hw _ (List.mem_of_find?_eq_some ea)).2⟩
        · exact so_l_lw hN hw em q hq
noncomputable def so_1 (q : Nat) (G : ai_G) : Option ai_G := match ai_cell G.2.1 q with
  | some (.inr (.inl (ty, n, lo, hi, l))) => match l.all (fun q => Nat.beq q.1.1 0) with
    | true => match so_l l 0 n with
      | some l' => some (G.1, (G.2.1.1, ai_tset 9 G.2.1.2 q (some (.inr (.inl (ty, n, lo, hi, l'))))), G.2.2)
      | none => none
    | false => none
  | _ => none
theorem so_1_ok {s : State} {D : va_G} {tyc : Nat → ClassId} {A : Nat → Prop} {sa : ai_B} {ws : va_W} {nL : Nat} {r : Nat → Int} {ad : Nat → Nat} {L S : List ai_V} {G G' : ai_G} {H : Heap} {locs : List Loc} {ls : Array Slot} {st : List Value} {q : Nat} (hq : 16 ≤ q) (hq2 : q < 512) (h : so_1 q G = some G') (hR : ai_Rel D tyc A s sa ws nL r ad L S G H locs ls st) : ai_Rel D tyc A s sa ws nL r ad L S G' H locs ls st ∧ G'.2.2 = G.2.2 := by
  unfold so_1 at h
  split at h
  · rename_i ty n lo hi l hc
    split at h
    · rename_i ha
      split at h
      · rename_i l' hl'
        cases h
        have hE := hR.env
        have hl : ∀ q ∈ l, q.1.1 = 0 := fun q hq => Nat.eq_of_beq_eq_true (List.all_eq_true.mp ha q hq)
        have tr : ∀ {g : Nat → Int}, ai_gK r G.1.1 lo hi l n g → ai_gK r G.1.1 lo hi l' n g := fun {g} hg => ⟨so_l_lw hE.2.1 hg.1 hl', fun j hj => so_l_ok hE.1 hl (hg.2 j hj) hl' (Nat.zero_le _) (by omega)⟩
        refine ⟨lx_cell hR hq hq2 hc (fun e he => ?_), rfl⟩
        rcases he with ⟨h1, f, h2, h3⟩ | ⟨h1, f, h2, h3⟩
        · exact Or.inl ⟨h1, f, h2, tr h3⟩
        · exact Or.inr ⟨h1, f, h2, tr h3⟩
      · cases h
    · cases h
  · cases h
noncomputable def so_G : List Nat → ai_G → Option ai_G
  | [], G => some G
  | q :: l, G => match Nat.ble 16 q && Nat.blt q 512 with
    | false => none
    | true => match so_1 q G with
      | none => none
      | some G' => so_G l G'
theorem so_G_ok {s : State} {D : va_G} {tyc : Nat → ClassId} {A : Nat → Prop} {sa : ai_B} {ws : va_W} {nL : Nat} {r : Nat → Int} {ad : Nat → Nat} {L S : List ai_V} {H : Heap} {locs : List Loc} {ls : Array Slot} {st : List Value} : ∀ {q : List Nat} {G G' : ai_G}, so_G q G = some G' → ai_Rel D tyc A s sa ws nL r ad L S G H locs ls st → ai_Rel D tyc A s sa ws nL r ad L S G' H locs ls st ∧ G'.2.2 = G.2.2
  | [], G, G', h, hR => by
    cases h
    exact ⟨hR, rfl⟩
  | q :: l, G, G', h, hR => by
    unfold so_G at h
    split at h
    · cases h
    · rename_i hq
      rw [Bool.and_eq_true] at hq
      split at h
      · cases h
      · rename_i G1 e1
        obtain ⟨a1, a2⟩ := so_1_ok (Nat.le_of_ble_eq_true hq.1) (Nat.le_of_ble_eq_true hq.2) e1 hR
        obtain ⟨b1, b2⟩ := so_G_ok h a1
        exact ⟨b1, b2.trans a2⟩
