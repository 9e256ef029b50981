/-! A PLACE OF AN ARRAY OF INTS BY A NUMBER THAT ISN'T KNOWN: read twice it is one number -/
section PX
variable {s : State} {D : va_G} {tyc : Nat → ClassId} {A : Nat → Prop} {sa : ai_B} {ws0 : va_W} {r : Nat → Int} {ad : Nat → Nat} {L S : List ai_V} {G : ai_G} {H : Heap} {locs : List Loc} {ls : Array Slot} {st : List Value}
noncomputable def hg_pinx (G : ai_G) (q n : Nat) (x : ai_X) (lo hi : Int) : ai_G := ((ai_new G.1 (lo, hi)).2, (G.2.1.1, ai_tset 9 G.2.1.2 q (some (.inr (.inl (0, n, lo, hi, [(x, (G.1.1, 0))]))))), G.2.2)
theorem hg_pinx_ok {nL : Nat} {q n : Nat} {x : ai_X} {lo hi : Int} (hR : ai_Rel D tyc A s sa ws0 nL r ad L S G H locs ls st) (hq : 16 ≤ q) (hqn : q < G.2.1.1) (hx : x.1 < G.1.1) (h0 : lo ≤ 0 ∧ 0 ≤ hi) (hs : ai_lo32 ≤ lo ∧ hi ≤ ai_hi32) (hc : ai_cell G.2.1 q = some (.inr (.inl (0, n, lo, hi, [])))) :
    ∃ r', ai_ext G.1.1 r r' ∧ lo ≤ r' G.1.1 ∧ r' G.1.1 ≤ hi ∧ ai_Rel D tyc A s sa ws0 nL r' ad L S (hg_pinx G q n x lo hi) H locs ls st := by
  obtain ⟨ws, hP, hD, hS, hE, hH, hO, hsa, hL, hSt⟩ := hR
  have hn512 := hH.1.2.1
  obtain ⟨y, hw, hg⟩ := hH.at hq hqn hc
  rcases hg with ⟨e0, -⟩ | ⟨-, f, rfl, hK⟩
  · cases e0
  · have hw0 : ∃ w : Int, (lo ≤ w ∧ w ≤ hi) ∧ ∀ i : Nat, i < n → ai_vx r x = (i : Int) → (f i).toInt = w := by
      by_cases e : ∃ i : Nat, i < n ∧ ai_vx r x = (i : Int)
      · obtain ⟨i, hi, e⟩ := e
        refine ⟨(f i).toInt, hK.2 i hi, fun i' hi' e' => ?_⟩
        have : i' = i := by omega
        rw [this]
      · exact ⟨0, h0, fun i hi e' => absurd ⟨i, hi, e'⟩ e⟩
    obtain ⟨w, hb, hwx⟩ := hw0
    cases en : ai_new G.1 (lo, hi) with
    | mk z E' =>
      obtain ⟨r', g1, g2, g3, g4, g5⟩ := ai_new_ok hE (b := (lo, hi)) hb (ai_small32 ⟨by omega, by omega⟩) en
      have ez : z = (G.1.1, 0) ∧ E'.1 = G.1.1 + 1 := by
        obtain ⟨⟨N, lb, ds⟩, G2⟩ := G
        cases en
        exact ⟨rfl, rfl⟩
      obtain ⟨rfl, hE1⟩ := ez
      have e0 : r' G.1.1 = w := by
        have : r' G.1.1 + 0 = w := g5
        omega
      refine ⟨r', g1, by rw [e0]; exact hb.1, by rw [e0]; exact hb.2, ?_⟩
      unfold hg_pinx
      rw [en]
      refine ⟨ws, hP, hD, hS, g3, ⟨hH.1, hH.2.1, fun k hk d hd => ?_, fun k hk hd => ?_⟩, fun k hk d hd => ?_, hsa, hL.mono g1 ai_ext.rfl' g2 (Nat.le_refl _), hSt.mono g1 ai_ext.rfl' g2 (Nat.le_refl _)⟩
      · have hk : k + 16 < G.2.1.1 := hk
        have hd : ai_cell (G.2.1.1, ai_tset 9 G.2.1.2 q (some (.inr (.inl (0, n, lo, hi, [(x, (G.1.1, 0))]))))) (k + 16) = some d := hd
        rw [hg_cell (by omega) (by omega)] at hd
        split at hd
        · rename_i ek
          cases hd
          refine ⟨.inl (tyc 0, n, .inl f), ?_, Or.inr ⟨Or.inl rfl, f, rfl, fun z hz => ?_, fun i hi' => ⟨fun hv => ?_, fun _ => hK.2 i hi'⟩⟩⟩
          · rw [show k = q - 16 by omega, hw, show q - 16 + 16 = q by omega]
          · rcases List.mem_cons.mp hz with rfl | hz
            · exact ⟨by show x.1 < E'.1; omega, by show G.1.1 < E'.1; omega⟩
            · cases hz
          · have hv : ai_vx r' x = (i : Int) := hv
            rw [g1.vx hx] at hv
            have := hwx i hi' hv
            show (f i).toInt = r' G.1.1 + 0
            omega
        · obtain ⟨y, h1, h2⟩ := hH.2.2.1 k hk d hd
          exact ⟨y, h1, h2.mono g1 ai_ext.rfl' g2 (Nat.le_refl _)⟩
      · have hk : k + 16 < G.2.1.1 := hk
        have hd : ai_cell (G.2.1.1, ai_tset 9 G.2.1.2 q (some (.inr (.inl (0, n, lo, hi, [(x, (G.1.1, 0))]))))) (k + 16) = none := hd
        rw [hg_cell (by omega) (by omega)] at hd
        split at hd
        · cases hd
        · exact hH.2.2.2 k hk hd
      · have hd : ai_cell (G.2.1.1, ai_tset 9 G.2.1.2 q (some (.inr (.inl (0, n, lo, hi, [(x, (G.1.1, 0))]))))) k = some d := hd
        rw [hg_cell (by omega) (by omega)] at hd
        split at hd
        · omega
        · obtain ⟨z, hz, lo', hi', l', h1, h2, h5⟩ := hO k hk d hd
          exact ⟨z, hz, lo', hi', l', h1, h2, h5.mono g1 g2⟩
end PX
