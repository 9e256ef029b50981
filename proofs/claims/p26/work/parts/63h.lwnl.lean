/-! THE LAW: minutes, where there is a night and so many minutes are left -/
theorem nl_dg1 {a b : Nat → Int} (h : ∀ t, t ≠ 71 → t < 400 → a t = b t) : ∀ t, t ≠ 71 → t < 400 → nf_p1 a t = nf_p1 b t := fun t hc ht => by
  unfold nf_p1
  by_cases q : 370 ≤ t ∧ t < 374
  · rw [if_pos q, if_pos q, h t hc ht, h 105 (by omega) (by omega), h (374 + (t - 370)) (by omega) (by omega)]
  · rw [if_neg q, if_neg q, h t hc ht]
theorem nl_dg2 {a b : Nat → Int} (h : ∀ t, t ≠ 71 → t < 400 → a t = b t) : ∀ t, t ≠ 71 → t < 400 → nf_p2 a t = nf_p2 b t := fun t hc ht => by
  unfold nf_p2
  by_cases q : 370 ≤ t ∧ t < 374
  · rw [if_pos q, if_pos q, h t hc ht, h 106 (by omega) (by omega), h 110 (by omega) (by omega), h 104 (by omega) (by omega), h (146 + (t - 370)) (by omega) (by omega)]
  · rw [if_neg q, if_neg q, h t hc ht]
theorem nl_dg3 {a b : Nat → Int} (h : ∀ t, t ≠ 71 → t < 400 → a t = b t) : ∀ t, t ≠ 71 → t < 400 → nf_p3 a t = nf_p3 b t := fun t hc ht => by
  unfold nf_p3 nf_mk nf_ld
  rw [h t hc ht, h 106 (by omega) (by omega), h 107 (by omega) (by omega), h (60 + 0) (by omega) (by omega), h (60 + 1) (by omega) (by omega), h (60 + 2) (by omega) (by omega), h (60 + 3) (by omega) (by omega), h 370 (by omega) (by omega), h (370 + 1) (by omega) (by omega), h (370 + 2) (by omega) (by omega), h (370 + 3) (by omega) (by omega)]
theorem nl_dg4 {a b : Nat → Int} (h : ∀ t, t ≠ 71 → t < 400 → a t = b t) : ∀ t, t ≠ 71 → t < 400 → nf_p4 a t = nf_p4 b t := fun t hc ht => by
  unfold nf_p4
  rw [h t hc ht, h 106 (by omega) (by omega), h 108 (by omega) (by omega), h 109 (by omega) (by omega), h 107 (by omega) (by omega)]
  by_cases q : b 106 < 49000 ∧ (b 108 < b 109 ∧ b 108 < 4)
  · rw [h (64 + (b 108).toNat) (by omega) (by omega)]
  · simp only [if_neg q]
theorem nl_dg {a b : Nat → Int} (h : ∀ t, t ≠ 71 → t < 400 → a t = b t) : ∀ t, t ≠ 71 → t < 400 → nf_one a t = nf_one b t := nl_dg4 (nl_dg3 (nl_dg2 (nl_dg1 h)))
theorem nl_dgS {a b : Nat → Int} (h : ∀ t, t ≠ 71 → t < 400 → a t = b t) : ∀ t, t ≠ 71 → t < 400 → nf_step a t = nf_step b t := fun t hc ht => by
  unfold nf_step nf_gn
  rw [h 102 (by omega) (by omega)]
  by_cases d : b 102 = 0
  · rw [if_pos d, if_pos d, nl_dg h t hc ht, nl_dg h 105 (by omega) (by omega)]
  · rw [if_neg d, if_neg d, h t hc ht, h 105 (by omega) (by omega)]
theorem nl_dgI {a b : Nat → Int} (h : ∀ t, t ≠ 71 → t < 400 → a t = b t) : ∀ (k t : Nat), t ≠ 71 → t < 400 → nf_it k a t = nf_it k b t
  | 0, t, hc, ht => h t hc ht
  | k + 1, t, hc, ht => nl_dgS (nl_dgI h k) t hc ht
/-- numbers of a cell -/
noncomputable def nl_syV (p : Nat → Bool) (b : ai_V) : Bool := match b with
  | .inl x => p x.1
  | .inr (.inl x) => p x.1
  | .inr (.inr _) => true
noncomputable def nl_sy (p : Nat → Bool) (d : ai_C) : Bool := match d with
  | .inl (_, fs) => fs.all (nl_syV p)
  | .inr (.inl (_, _, _, _, l)) => l.all (fun q => p q.1.1 && p q.2.1)
  | .inr (.inr _) => true
noncomputable def nl_syh (p : Nat → Bool) (h : ai_H) : Bool := (List.range 336).all (fun k => match ai_cell h k with
  | none => true
  | some d => nl_sy p d)
section NLC
variable {D : va_G} {tyc : Nat → ClassId} {A : Nat → Prop} {s : State} {sa : ai_B} {ws : va_W} {N n nL : Nat} {r r2 : Nat → Int} {ad : Nat → Nat} {p : Nat → Bool}
theorem nl_ov {lo hi : Int} {j : Nat} {v : Int} : ∀ {l : List (ai_X × ai_X)}, (∀ q ∈ l, ai_vx r2 q.1 = ai_vx r q.1 ∧ ai_vx r2 q.2 = ai_vx r q.2) → ai_ov r lo hi l j v → ai_ov r2 lo hi l j v
  | [], _, g => g
  | (i, x) :: l, hl, g => by
    have h1 := hl _ List.mem_cons_self
    unfold ai_ov at g ⊢
    rw [h1.1, h1.2]
    exact ⟨g.1, fun q => nl_ov (fun z hz => hl z (List.mem_cons_of_mem _ hz)) (g.2 q)⟩
theorem nl_vx (e : ∀ t, p t = true → r2 t = r t) {x : ai_X} (h : p x.1 = true) : ai_vx r2 x = ai_vx r x := by
  show r2 x.1 + x.2 = r x.1 + x.2
  rw [e _ h]
theorem nl_gC {d : ai_C} {x : va_E} (h : nl_sy p d = true) (e : ∀ t, p t = true → r2 t = r t) (g : ai_gC tyc r ad N n d x) : ai_gC tyc r2 ad N n d x := by
  rcases d with ⟨ci, fs⟩ | ⟨ty, m, lo, hi, l⟩ | ⟨ty, l⟩
  · obtain ⟨vs, h1, h2⟩ := g
    refine ⟨vs, h1, nf_gF2 (fun b hb y hy => ?_) h2⟩
    have hb := List.all_eq_true.mp h b hb
    rcases hy with rfl | rfl
    · exact nl_vx e hb
    · exact nl_vx e hb
  · have hl : ∀ q ∈ l, ai_vx r2 q.1 = ai_vx r q.1 ∧ ai_vx r2 q.2 = ai_vx r q.2 := fun q hq => by
      have hb := List.all_eq_true.mp (show l.all (fun q => p q.1.1 && p q.2.1) = true from h) q hq
      rw [Bool.and_eq_true] at hb
      exact ⟨nl_vx e hb.1, nl_vx e hb.2⟩
    rcases g with ⟨h1, f, h2, h3⟩ | ⟨h1, f, h2, h3⟩
    · exact Or.inl ⟨h1, f, h2, h3.1, fun j hj => nl_ov hl (h3.2 j hj)⟩
    · exact Or.inr ⟨h1, f, h2, h3.1, fun j hj => nl_ov hl (h3.2 j hj)⟩
  · exact g
noncomputable def nl_he : ai_H := (336, ce_9)
theorem nl_heok : (List.range 336).all (fun k => (ai_cell nl_he k).isNone) = true := by decide +kernel
theorem nl_heN {k : Nat} (hk : k < 336) : ai_cell nl_he k = none := Option.isNone_iff_eq_none.mp (List.all_eq_true.mp nl_heok k (List.mem_range.mpr hk))
/-- with no cells the numbers may be any -/
theorem nl_swap {L S : List ai_V} {c1 s1 : Nat} {H : Heap} {locs : List Loc} {ls : Array Slot} {st : List Value} (hR : ai_Rel D tyc A s sa ws nL r ad L S (nf_E, nl_he, c1, s1) H locs ls st) (hE' : ai_gE r2 nf_E) (hL : ∀ b ∈ L, ∀ x, b = .inl x ∨ b = .inr (.inl x) → ai_vx r2 x = ai_vx r x) (hS : ∀ b ∈ S, ∀ x, b = .inl x ∨ b = .inr (.inl x) → ai_vx r2 x = ai_vx r x) : ai_Rel D tyc A s sa ws nL r2 ad L S (nf_E, nl_he, c1, s1) H locs ls st := by
  obtain ⟨ws', hP, hD, hS', hE, hH, hO, hsa, hLL, hSt⟩ := hR
  refine ⟨ws', hP, hD, hS', hE', ⟨hH.1, hH.2.1, fun k hk c hc => ?_, hH.2.2.2⟩, fun q hq c hc => ?_, hsa, nf_gL2 hL hLL, nf_gF2 hS hSt⟩
  · have hc : ai_cell nl_he (k + 16) = some c := hc
    rw [nl_heN hk] at hc
    cases hc
  · have hc : ai_cell nl_he q = some c := hc
    rw [nl_heN (by omega)] at hc
    cases hc
/-- what stands in cells that are put aside -/
noncomputable def nl_K (tyc : Nat → ClassId) (ws : va_W) (r : Nat → Int) (ad : Nat → Nat) (h : ai_H) (p : Nat → Bool) : Prop := ∀ k, 16 ≤ k → k < 336 → p k = true → ∀ d, ai_cell h k = some d → ∃ a x, ws[k - 16]? = some (a, x) ∧ ai_gC tyc r ad nf_E.1 336 d x
noncomputable def nl_same (h : ai_H) (ws ws' : va_W) : Prop := ∀ k, k + 16 < 336 → ai_cell h (k + 16) = none → ws'[k]? = ws[k]?
theorem nl_K.wss {ws' : va_W} {h g : ai_H} (q : nl_K tyc ws r ad h p) (w : nl_same g ws ws') (hg : ∀ k, k < 336 → p k = true → ai_cell g k = none) : nl_K tyc ws' r ad h p := fun k h1 h2 h3 d hd => by
  obtain ⟨a, x, e, y⟩ := q k h1 h2 h3 d hd
  refine ⟨a, x, ?_, y⟩
  have := w (k - 16) (by omega) (by rw [show k - 16 + 16 = k by omega]; exact hg k h2 h3)
  rw [this]
  exact e
theorem nl_K.re {h : ai_H} {q : Nat → Bool} {ad2 : Nat → Nat} (g : nl_K tyc ws r ad h p) (hc : ∀ k, 16 ≤ k → k < 336 → p k = true → ∀ d, ai_cell h k = some d → nl_sy q d = true) (e : ∀ t, q t = true → r2 t = r t) (x : ai_ext 336 ad ad2) : nl_K tyc ws r2 ad2 h p := fun k h1 h2 h3 d hd => by
  obtain ⟨a, y, e1, y1⟩ := g k h1 h2 h3 d hd
  exact ⟨a, y, e1, (nl_gC (hc k h1 h2 h3 d hd) e y1).mono ai_ext.rfl' x (Nat.le_refl _) (Nat.le_refl _)⟩
theorem nl_drop {L S : List ai_V} {h h' : ai_H} {c1 s1 : Nat} {H : Heap} {locs : List Loc} {ls : Array Slot} {st : List Value} (hR : ai_Rel D tyc A s sa ws nL r ad L S (nf_E, h, c1, s1) H locs ls st) (h1 : h.1 = 336) (hn : h'.1 = 336) (hc : ∀ k, k < 336 → ∀ d, ai_cell h' k = some d → ai_cell h k = some d) : ∃ ws', nl_same h ws ws' ∧ nl_K tyc ws' r ad h (fun _ => true) ∧ ai_Rel D tyc A s sa ws' nL r ad L S (nf_E, h', c1, s1) H locs ls st := by
  obtain ⟨ws', a, b, c⟩ := gh_drop (h := h) (h' := h') hR (by rw [h1, hn]) (fun k hk d hd => hc k (by omega) d hd)
  refine ⟨ws', fun k hk hn => a k (by rw [h1]; exact hk) hn, fun k k1 k2 _ d hd => ?_, c⟩
  obtain ⟨x, e, g⟩ := b k k1 (by rw [h1]; exact k2) d hd
  rw [h1] at g
  exact ⟨ad k, x, e, g⟩
theorem nl_back {L S : List ai_V} {h h' : ai_H} {c1 s1 : Nat} {H : Heap} {locs : List Loc} {ls : Array Slot} {st : List Value} (hR : ai_Rel D tyc A s sa ws nL r ad L S (nf_E, h', c1, s1) H locs ls st) (h1 : h.1 = 336) (hn : h'.1 = 336) (hc : ∀ k, k < 336 → ∀ d, ai_cell h k = some d → ai_cell h' k = some d ∨ (16 ≤ k ∧ ai_cell h' k = none ∧ ∃ a x, ws[k - 16]? = some (a, x) ∧ ai_gC tyc r ad nf_E.1 336 d x)) (hz : ∀ k, k < 336 → ai_cell h k = none → ai_cell h' k = none) : ai_Rel D tyc A s sa ws nL r ad L S (nf_E, h, c1, s1) H locs ls st :=
  gh_back (h := h) (h' := h') hR (by rw [h1, hn]) (fun k hk d hd => by
    rw [h1] at hk ⊢
    exact hc k hk d hd) (fun k hk hd => hz k (by rw [← h1]; exact hk) hd)
end NLC
