/-! MAKING A STATE WIDER -/
theorem ai_wfV.mono {N N' n : Nat} {a : ai_V} (hN : N ≤ N') (h : ai_wfV N n a) : ai_wfV N' n a := by
  rcases a with x | x | _ | _ | q
  · exact Nat.lt_of_lt_of_le h hN
  · exact Nat.lt_of_lt_of_le h hN
  · trivial
  · trivial
  · exact h
theorem ai_lw.mono' {N N' : Nat} {l : List (ai_X × ai_X)} (hN : N ≤ N') (h : ai_lw N l) : ai_lw N' l := fun q hq => ⟨Nat.lt_of_lt_of_le (h q hq).1 hN, Nat.lt_of_lt_of_le (h q hq).2 hN⟩
theorem ai_wfC.mono {N N' n : Nat} {c : ai_C} (hN : N ≤ N') (h : ai_wfC N n c) : ai_wfC N' n c := by
  rcases c with ⟨ci, fs⟩ | ⟨ty, k, lo, hi, l⟩ | ⟨ty, l⟩
  · exact fun a ha => (h a ha).mono hN
  · exact ai_lw.mono' hN h
  · trivial
theorem ai_wfV_kill {N n : Nat} {a : ai_V} (h : ai_wfV N n a) : ai_wfV N n (ai_kill a) := by
  rcases a with x | x | _ | _ | q <;> first | exact h | trivial
theorem ai_lset_wf {N n : Nat} {v : ai_V} (hv : ai_wfV N n v) : ∀ {L : List ai_V} {i : Nat}, (∀ a ∈ L, ai_wfV N n a) → ∀ a ∈ ai_lset L i v, ai_wfV N n a
  | [], _, h, a, ha => h a ha
  | w :: L, 0, h, a, ha => by
    rcases List.mem_cons.mp ha with rfl | ha
    · exact hv
    · exact h a (List.mem_cons_of_mem _ ha)
  | w :: L, 1, h, a, ha => by
    rcases List.mem_cons.mp ha with rfl | ha
    · exact ai_wfV_kill (h _ List.mem_cons_self)
    · exact ai_lset_wf hv (L := L) (i := 0) (fun b hb => h b (List.mem_cons_of_mem _ hb)) a ha
  | w :: L, i + 2, h, a, ha => by
    rcases List.mem_cons.mp ha with rfl | ha
    · exact h _ List.mem_cons_self
    · exact ai_lset_wf hv (L := L) (i := i + 1) (fun b hb => h b (List.mem_cons_of_mem _ hb)) a ha
theorem ai_setv_wf {N n : Nat} {v : ai_V} (hv : ai_wfV N n v) : ∀ {L : List ai_V} {i : Nat}, (∀ a ∈ L, ai_wfV N n a) → ∀ a ∈ ai_setv L i v, ai_wfV N n a
  | [], _, h, a, ha => h a ha
  | w :: L, 0, h, a, ha => by
    rcases List.mem_cons.mp ha with rfl | ha
    · exact hv
    · exact h a (List.mem_cons_of_mem _ ha)
  | w :: L, i + 1, h, a, ha => by
    rcases List.mem_cons.mp ha with rfl | ha
    · exact h _ List.mem_cons_self
    · exact ai_setv_wf hv (L := L) (i := i) (fun b hb => h b (List.mem_cons_of_mem _ hb)) a ha
theorem ai_gV.wf {r : Nat → Int} {ad : Nat → Nat} {N n : Nat} {a : ai_V} {v : Value} (h : ai_gV r ad N n a v) : ai_wfV N n a := by
  rcases a with x | x | _ | _ | q
  · exact h.1
  · exact h.1
  · trivial
  · trivial
  · exact h.1
theorem ai_gF.wf {r : Nat → Int} {ad : Nat → Nat} {N n : Nat} : ∀ {l : List ai_V} {m : List Value}, ai_gF r ad N n l m → ∀ a ∈ l, ai_wfV N n a
  | [], _, _, a, ha => by cases ha
  | b :: l, [], h, _, _ => h.elim
  | b :: l, v :: m, h, a, ha => by
    rcases List.mem_cons.mp ha with rfl | ha
    · exact h.1.wf
    · exact ai_gF.wf h.2 a ha
theorem ai_lget_of : ∀ {L : List ai_V} {a : ai_V}, a ∈ L → ∃ i, ai_lget L i = a
  | [], _, h => by cases h
  | b :: L, a, h => by
    rcases List.mem_cons.mp h with rfl | h
    · exact ⟨0, rfl⟩
    · obtain ⟨i, hi⟩ := ai_lget_of h
      exact ⟨i + 1, hi⟩
theorem ai_gL.wf {r : Nat → Int} {ad : Nat → Nat} {N n nL : Nat} {L : List ai_V} {ls : Array Slot} (h : ai_gL r ad N n nL L ls) : ∀ a ∈ L, ai_wfV N n a := fun a ha => by
  obtain ⟨i, rfl⟩ := ai_lget_of ha
  cases e : ai_unk (ai_lget L i) with
  | true =>
    rcases e2 : ai_lget L i with x | x | _ | x <;> rw [e2] at e <;> first | trivial | cases e
  | false =>
    obtain ⟨v, -, g⟩ := h.2.2.2 i (ai_unk_iff.mp e)
    exact g.wf
theorem ai_gC.wf {tyc : Nat → ClassId} {r : Nat → Int} {ad : Nat → Nat} {N n : Nat} {c : ai_C} {e : va_E} (h : ai_gC tyc r ad N n c e) : ai_wfC N n c := by
  rcases c with ⟨ci, fs⟩ | ⟨ty, k, lo, hi, l⟩ | ⟨ty, l⟩
  · obtain ⟨vs, -, g⟩ := h
    exact g.wf
  · rcases h with ⟨-, f, -, g⟩ | ⟨-, f, -, g⟩
    · exact g.1
    · exact g.1
  · trivial
noncomputable def ai_IE (base : Nat) (r : Nat → Int) (ds : List ai_D) (E : ai_E) : Prop := base ≤ E.1 ∧ (∀ q ∈ E.2.1, q.1 < E.1 ∧ (q.1 < base → q.2.1 ≤ r q.1 ∧ r q.1 ≤ q.2.2) ∧ (base ≤ q.1 → ai_look E.2.1 q.1 = q.2)) ∧ E.2.2 = ds
theorem ai_IE.new {base : Nat} {r : Nat → Int} {ds : List ai_D} {E E' : ai_E} {b : Int × Int} {z : ai_X} (h : ai_IE base r ds E) (e : ai_new E b = (z, E')) : ai_IE base r ds E' ∧ z.1 < E'.1 ∧ E.1 ≤ E'.1 := by
  obtain ⟨N, l, d⟩ := E
  cases e
  obtain ⟨h1, h2, h3⟩ := h
  refine ⟨⟨Nat.le_succ_of_le h1, fun q hq => ?_, h3⟩, Nat.lt_succ_self N, Nat.le_succ N⟩
  rcases List.mem_cons.mp hq with rfl | hq
  · refine ⟨Nat.lt_succ_self N, fun hb => ?_, fun _ => ?_⟩
    · have h1 : base ≤ N := h1
      have hb : N < base := hb
      omega
    · show ai_look ((N, b) :: l) N = b
      obtain ⟨lo, hi⟩ := b
      rw [ai_look_c]
      rw [Nat.beq_refl]
  · obtain ⟨g1, g2, g3⟩ := h2 q hq
    refine ⟨Nat.lt_succ_of_lt g1, g2, fun hb => ?_⟩
    show ai_look ((N, b) :: l) q.1 = q.2
    obtain ⟨lo, hi⟩ := b
    have g1 : q.1 < N := g1
    have e : Nat.beq N q.1 = false := by
      cases e : Nat.beq N q.1 with
      | false => rfl
      | true =>
        have := Nat.eq_of_beq_eq_true e
        omega
    rw [ai_look_c]
    rw [e]
    exact g3 hb
noncomputable def ai_IC (N : Nat) (h : ai_H) : Prop := h.1 ≤ 512 ∧ ∀ k d, k < h.1 → ai_cell h k = some d → ai_wfC N h.1 d
theorem ai_IC.put {N N' : Nat} {h h' : ai_H} {q : Nat} {c : ai_C} (hN : N ≤ N') (g : ai_IC N h) (e : ai_put h q c = some h') (hc : ai_wfC N' h.1 c) : ai_IC N' h' ∧ h'.1 = h.1 := by
  obtain ⟨p1, p2, p3, p4⟩ := ai_put_ok e
  refine ⟨⟨by rw [p3]; exact g.1, fun k d hk hd => ?_⟩, p3⟩
  rw [p3] at hk ⊢
  have h5 := g.1
  rw [p4 h5 k (by omega)] at hd
  by_cases ek : k = q
  · rw [if_pos ek] at hd
    cases hd
    exact hc
  · rw [if_neg ek] at hd
    exact (g.2 k d hk hd).mono hN
theorem ai_genL_ok {base : Nat} {r : Nat → Int} {ds : List ai_D} {n : Nat} : ∀ {l : List (Nat × Int × Int)} {E E' : ai_E} {L L' : List ai_V}, ai_genL l E L = (E', L') → ai_IE base r ds E → (∀ a ∈ L, ai_wfV E.1 n a) → ai_IE base r ds E' ∧ (∀ a ∈ L', ai_wfV E'.1 n a) ∧ E.1 ≤ E'.1
  | [], E, E', L, L', h, hE, hL => by
    cases h
    exact ⟨hE, hL, Nat.le_refl _⟩
  | (i, lo, hi) :: l, E, E', L, L', h, hE, hL => by
    unfold ai_genL at h
    cases en : ai_new E (lo, hi) with
    | mk z E1 =>
      rw [en] at h
      obtain ⟨g1, g2, g3⟩ := hE.new en
      obtain ⟨f1, f2, f3⟩ := ai_genL_ok (L := ai_lset L i (.inl z)) h g1 (ai_lset_wf (N := E1.1) (n := n) (v := .inl z) g2 (fun a ha => (hL a ha).mono g3))
      exact ⟨f1, f2, Nat.le_trans g3 f3⟩
theorem ai_genU_ok {N n : Nat} : ∀ {l : List Nat} {L : List ai_V}, (∀ a ∈ L, ai_wfV N n a) → ∀ a ∈ ai_genU l L, ai_wfV N n a
  | [], _, hL => hL
  | i :: l, L, hL => ai_genU_ok (l := l) (L := ai_lset L i (.inr (.inr none))) (ai_lset_wf (N := N) (n := n) (v := .inr (.inr none)) trivial hL)
theorem ai_genF_ok {base : Nat} {r : Nat → Int} {ds : List ai_D} : ∀ {l : List (Nat × Nat × Int × Int)} {E E' : ai_E} {h h' : ai_H}, ai_genF l E h = some (E', h') → ai_IE base r ds E → ai_IC E.1 h → ai_IE base r ds E' ∧ ai_IC E'.1 h' ∧ E.1 ≤ E'.1 ∧ h'.1 = h.1
  | [], E, E', h, h', e, hE, hC => by
    cases e
    exact ⟨hE, hC, Nat.le_refl _, rfl⟩
  | (q, k, lo, hi) :: l, E, E', h, h', e, hE, hC => by
    unfold ai_genF at e
    cases en : ai_new E (lo, hi) with
    | mk z E1 =>
      rw [en] at e
      obtain ⟨g1, g2, g3⟩ := hE.new en
      dsimp only at e
      split at e
      · rename_i ci fs ec
        split at e
        · rename_i h1 ep
          have hq := (ai_put_ok ep).2.1
          obtain ⟨c1, c2⟩ := hC.put g3 ep (show ∀ a ∈ ai_setv fs k (.inl z), ai_wfV E1.1 h.1 a from ai_setv_wf (N := E1.1) (n := h.1) (v := .inl z) g2 (fun a ha => ai_wfV.mono g3 ((hC.2 q _ hq ec) a ha)))
          obtain ⟨f1, f2, f3, f4⟩ := ai_genF_ok e g1 c1
          exact ⟨f1, f2, Nat.le_trans g3 f3, f4.trans c2⟩
        · cases e
      · cases e
theorem ai_kp_ok {N : Nat} (hN : 0 < N) : ∀ {l : List (Nat × Int)}, ai_lw N (ai_kp l)
  | [] => fun q hq => by cases hq
  | (j, v) :: l => fun q hq => by
    rcases List.mem_cons.mp hq with rfl | hq
    · exact ⟨hN, hN⟩
    · exact ai_kp_ok hN q hq
theorem ai_genA_ok {N : Nat} (hN : 0 < N) : ∀ {l : List (Nat × Int × Int × List (Nat × Int))} {h h' : ai_H}, ai_genA l h = some h' → ai_IC N h → ai_IC N h' ∧ h'.1 = h.1
  | [], h, h', e, hC => by
    cases e
    exact ⟨hC, rfl⟩
  | (q, lo, hi, kp) :: l, h, h', e, hC => by
    unfold ai_genA at e
    split at e
    · split at e
      · rename_i ep
        obtain ⟨c1, c2⟩ := hC.put (Nat.le_refl _) ep (show ai_lw N (ai_kp kp) from ai_kp_ok hN)
        obtain ⟨f1, f2⟩ := ai_genA_ok hN e c1
        exact ⟨f1, f2.trans c2⟩
      · cases e
    · cases e
section GN
variable {D : va_G} {tyc : Nat → ClassId} {A : Nat → Prop} {sa : ai_B} {s : State} {ws0 : va_W} {nL : Nat} {An : ai_A}
variable {r : Nat → Int} {ad : Nat → Nat} {L S L' : List ai_V} {G G' : ai_G} {H : Heap} {locs : List Loc} {ls : Array Slot} {st : List Value}
theorem ai_gen_ok (h : ai_gen An L G = some (L', G')) (hR : ai_Rel D tyc A s sa ws0 nL r ad L S G H locs ls st) : G.1.1 ≤ G'.1.1 ∧ G'.2.1.1 = G.2.1.1 ∧ (∀ a ∈ L', ai_wfV G'.1.1 G'.2.1.1 a) ∧ (∀ a ∈ S, ai_wfV G'.1.1 G'.2.1.1 a) ∧ (∀ k d, k < G'.2.1.1 → ai_cell G'.2.1 k = some d → ai_wfC G'.1.1 G'.2.1.1 d) ∧
    (∀ q ∈ G'.1.2.1, q.1 < G'.1.1 ∧ (q.1 < G.1.1 → q.2.1 ≤ r q.1 ∧ r q.1 ≤ q.2.2) ∧ (G.1.1 ≤ q.1 → ai_look G'.1.2.1 q.1 = q.2)) ∧
    (∀ q ∈ G'.1.2.2, q.2.1 < G.1.1 ∧ q.2.2.1.1 < G.1.1 ∧ q.2.2.2.1 < G.1.1 ∧ r q.2.1 = ai_op q.1 (ai_vx r q.2.2.1) (ai_vx r q.2.2.2)) := by
  obtain ⟨E, hh, cs, sl⟩ := G
  obtain ⟨ws, hP, hD, hS, hE, hH, hO, hsa, hL, hSt⟩ := hR
  have i0 : ai_IE E.1 r E.2.2 E := ⟨Nat.le_refl _, fun q hq => by
    have := hE.2.2.2.1 q hq
    exact ⟨this.1, fun _ => this.2, fun g => absurd this.1 (Nat.not_lt.mpr g)⟩, rfl⟩
  have i1 : ai_IC E.1 hh := ⟨hH.1.2.1, fun k d hk hd => by
    by_cases h16 : 16 ≤ k
    · obtain ⟨e, -, g⟩ := hH.at h16 hk hd
      exact g.wf
    · obtain ⟨z, -, lo, hi, l, rfl, -, g⟩ := hO k (by omega) d hd
      exact g.1⟩
  unfold ai_gen at h
  dsimp only at h
  cases e1 : ai_genL An.1 E L with
  | mk E1 L1 =>
    rw [e1] at h
    obtain ⟨a1, a2, a3⟩ := ai_genL_ok e1 i0 hL.wf
    dsimp only at h
    split at h
    · cases h
    · rename_i E2 h2 e2
      have i2 : ai_IC E1.1 hh := ⟨i1.1, fun k d hk hd => (i1.2 k d hk hd).mono a3⟩
      obtain ⟨b1, b2, b3, b4⟩ := ai_genF_ok e2 a1 i2
      split at h
      · cases h
      · rename_i h3 e3
        obtain ⟨c1, c2⟩ := ai_genA_ok (Nat.lt_of_lt_of_le hE.2.1 b1.1) e3 b2
        cases h
        have en : h3.1 = hh.1 := c2.trans b4
        refine ⟨b1.1, en, ?_, ?_, c1.2, b1.2.1, fun q hq => ?_⟩
        · show ∀ a ∈ ai_genU An.2.1 L1, ai_wfV E2.1 h3.1 a
          rw [en]
          exact ai_genU_ok (fun a ha => (a2 a ha).mono b3)
        · show ∀ a ∈ S, ai_wfV E2.1 h3.1 a
          rw [en]
          exact fun a ha => ai_wfV.mono b1.1 ((show ai_gF r ad E.1 hh.1 S st from hSt).wf a ha)
        · have hq : q ∈ E2.2.2 := hq
          rw [b1.2.2] at hq
          have := hE.2.2.2.2 q hq
          exact this
end GN
