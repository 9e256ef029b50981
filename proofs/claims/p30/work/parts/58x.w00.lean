/-! WAY: the shortest row of acts: breadth first and by distances come to the same row -/
noncomputable def wm_u {α : Type} (f : Nat → α) (x : Nat) (v : α) : Nat → α := fun y => if y = x then v else f y
theorem wm_u0 {α : Type} {f : Nat → α} {x : Nat} {v : α} : wm_u f x v x = v := if_pos rfl
theorem wm_u1 {α : Type} {f : Nat → α} {x y : Nat} {v : α} (h : y ≠ x) : wm_u f x v y = f y := if_neg h
/-- an act adds to a state -/
noncomputable def wm_T (T : Nat → Nat → Option Nat) (V : Nat → Prop) : Prop := V 0 ∧ ∀ s a t, s < 4096 → a < 13 → T s a = some t → s < t ∧ t < 4096 ∧ (V s → V t)
/-- distances to the end, -1: none -/
noncomputable def wm_F (T : Nat → Nat → Option Nat) (fin : Nat → Prop) (F : Nat → Int) : Prop := ∀ s, s < 4096 → -1 ≤ F s ∧ (fin s → F s = 0) ∧ (¬ fin s → (∀ a t, a < 13 → T s a = some t → F t ≠ -1 → F s ≠ -1 ∧ F s ≤ F t + 1) ∧ (F s ≠ -1 → ∃ a t, a < 13 ∧ T s a = some t ∧ F t ≠ -1 ∧ F s = F t + 1))
/-- what was found, breadth first: n states in q, each but the first found at the place κ (13 times the one ahead of it, and the act), c places done -/
noncomputable def wm_B (T : Nat → Nat → Option Nat) (V : Nat → Prop) (c n : Nat) (q κ d : Nat → Nat) (b : Nat → Int) : Prop :=
  ((1 ≤ n ∧ q 0 = 0) ∧ b 0 = 0 ∧ d 0 = 0) ∧ (∀ j, j < n → q j < 4096 ∧ V (q j)) ∧ (∀ s, s < 4096 → b s ≠ -1 → ∃ j, j < n ∧ q j = s) ∧
  (∀ j, 0 < j → j < n → κ j < c ∧ κ j / 13 < j ∧ T (q (κ j / 13)) (κ j % 13) = some (q j) ∧ b (q j) = ((16 * q (κ j / 13) + κ j % 13 : Nat) : Int) ∧ d j = d (κ j / 13) + 1) ∧
  (∀ j j', 0 < j → j < j' → j' < n → κ j < κ j') ∧
  (∀ e, e < c → e / 13 < n → ∀ t, T (q (e / 13)) (e % 13) = some t → ∃ j, 0 < j ∧ j < n ∧ q j = t ∧ κ j ≤ e) ∧
  (∀ j j', j < j' → j' < n → q j ≠ q j')
theorem wm_pig : ∀ (m n : Nat) (q : Nat → Nat), (∀ j, j < n → q j < m) → (∀ j j', j < j' → j' < n → q j ≠ q j') → n ≤ m
  | 0, n, q, h, _ => by
    cases n with
    | zero => exact Nat.le_refl _
    | succ n => exact absurd (h 0 (by omega)) (by omega)
  | m + 1, n, q, h, hd => by
    by_cases e : ∃ k, k < n ∧ q k = m
    · obtain ⟨k, k1, k2⟩ := e
      have := wm_pig m (n - 1) (fun j => if j < k then q j else q (j + 1)) (fun j hj => by
        by_cases c : j < k
        · rw [if_pos c]
          have a := h j (by omega)
          have b := hd j k c k1
          omega
        · rw [if_neg c]
          have a := h (j + 1) (by omega)
          have b := hd k (j + 1) (by omega) (by omega)
          omega) (fun j j' hj hj' => by
        by_cases c : j < k
        · rw [if_pos c]
          by_cases c' : j' < k
          · rw [if_pos c']
            exact hd j j' hj (by omega)
          · rw [if_neg c']
            exact hd j (j' + 1) (by omega) (by omega)
        · rw [if_neg c, if_neg (by omega)]
          exact hd (j + 1) (j' + 1) (by omega) (by omega))
      omega
    · have := wm_pig m n q (fun j hj => by
        have a := h j hj
        have b : q j ≠ m := fun w => e ⟨j, hj, w⟩
        omega) hd
      omega
section WAYM
variable {T : Nat → Nat → Option Nat} {fin V : Nat → Prop} {F : Nat → Int} {c n : Nat} {q κ d : Nat → Nat} {b : Nat → Int}
theorem wm_le (h : wm_B T V c n q κ d b) : n ≤ 4096 := wm_pig 4096 n q (fun j hj => (h.2.1 j hj).1) h.2.2.2.2.2.2
theorem wm_0 (hT : wm_T T V) {b : Nat → Int} (h0 : b 0 = 0) (h1 : ∀ s, s < 4096 → s ≠ 0 → b s = -1) {q : Nat → Nat} (hq : q 0 = 0) : wm_B T V 0 1 q (fun _ => 0) (fun _ => 0) b := by
  refine ⟨⟨⟨Nat.le_refl _, hq⟩, h0, rfl⟩, fun j hj => ?_, fun s hs hb => ⟨0, by omega, ?_⟩, fun j h1 h2 => by omega, fun j j' h1 h2 h3 => by omega, fun e he => by omega, fun j j' h1 h2 => by omega⟩
  · have : j = 0 := by omega
    subst this
    rw [hq]
    exact ⟨by omega, hT.1⟩
  · by_cases e : s = 0
    · rw [hq, e]
    · exact absurd (h1 s hs e) hb
/-- a place at which nothing new is found -/
theorem wm_old (hT : wm_T T V) (h : wm_B T V c n q κ d b) (hc : c / 13 < n) (ho : ∀ t, T (q (c / 13)) (c % 13) = some t → b t ≠ -1) : wm_B T V (c + 1) n q κ d b := by
  obtain ⟨h1, h2, h3, h4, h5, h6, h7⟩ := h
  refine ⟨h1, h2, h3, fun j j1 j2 => ?_, h5, fun e he hn t ht => ?_, h7⟩
  · obtain ⟨a, b⟩ := h4 j j1 j2
    exact ⟨by omega, b⟩
  · by_cases q1 : e = c
    · subst q1
      obtain ⟨w1, w2, -⟩ := hT.2 _ _ _ (h2 _ hc).1 (Nat.mod_lt _ (by omega)) ht
      obtain ⟨j, j1, j2⟩ := h3 t w2 (ho t ht)
      have j0 : 0 < j := by
        rcases Nat.eq_zero_or_pos j with z | z
        · subst z
          rw [h1.1.2] at j2
          omega
        · exact z
      exact ⟨j, j0, j1, j2, Nat.le_of_lt (h4 j j0 j1).1⟩
    · exact h6 e (by omega) hn t ht
/-- a place at which a new state is found -/
theorem wm_new (hT : wm_T T V) (h : wm_B T V c n q κ d b) (hc : c / 13 < n) {t : Nat} (ht : T (q (c / 13)) (c % 13) = some t) (hb : b t = -1) : n < 4096 ∧ t < 4096 ∧ wm_B T V (c + 1) (n + 1) (wm_u q n t) (wm_u κ n c) (wm_u d n (d (c / 13) + 1)) (wm_u b t ((16 * q (c / 13) + c % 13 : Nat) : Int)) := by
  have hh := h
  obtain ⟨h1, h2, h3, h4, h5, h6, h7⟩ := hh
  obtain ⟨w1, w2, w3⟩ := hT.2 _ _ _ (h2 _ hc).1 (Nat.mod_lt _ (by omega)) ht
  have fresh : ∀ j, j < n → q j ≠ t := fun j hj e => by
    by_cases z : j = 0
    · subst z
      rw [h1.1.2] at e
      omega
    · have g := (h4 j (by omega) hj).2.2.2.1
      rw [e, hb] at g
      omega
  have qo : ∀ j, j < n → wm_u q n t j = q j := fun j hj => wm_u1 (by omega)
  have dis : ∀ j j', j < j' → j' < n + 1 → wm_u q n t j ≠ wm_u q n t j' := fun j j' a1 a2 => by
    rw [qo j (by omega)]
    by_cases z : j' = n
    · subst z
      rw [wm_u0]
      exact fresh j a1
    · rw [qo j' (by omega)]
      exact h7 j j' a1 (by omega)
  have qb : ∀ j, j < n + 1 → wm_u q n t j < 4096 ∧ V (wm_u q n t j) := fun j hj => by
    by_cases z : j = n
    · subst z
      rw [wm_u0]
      exact ⟨w2, w3 (h2 _ hc).2⟩
    · rw [qo j (by omega)]
      exact h2 j (by omega)
  have n1 := wm_pig 4096 (n + 1) (wm_u q n t) (fun j hj => (qb j hj).1) dis
  have t0 : t ≠ 0 := by omega
  refine ⟨by omega, w2, ⟨⟨by omega, (qo 0 (by omega)).trans h1.1.2⟩, (wm_u1 (by omega)).trans h1.2.1, (wm_u1 (by omega)).trans h1.2.2⟩, qb, fun s hs hbs => ?_, fun j j1 j2 => ?_, fun j j' a1 a2 a3 => ?_, fun e he hn t' ht' => ?_, dis⟩
  · by_cases z : s = t
    · exact ⟨n, by omega, by rw [wm_u0, z]⟩
    · rw [wm_u1 z] at hbs
      obtain ⟨j, j1, j2⟩ := h3 s hs hbs
      exact ⟨j, by omega, (qo j j1).trans j2⟩
  · by_cases z : j = n
    · subst z
      rw [wm_u0, wm_u0, wm_u0, wm_u0, qo _ hc]
      refine ⟨by omega, hc, ht, rfl, ?_⟩
      rw [wm_u1 (by omega)]
    · obtain ⟨a, b1, c1, d1, e1⟩ := h4 j j1 (by omega)
      rw [wm_u1 z, qo j (by omega), wm_u1 z, wm_u1 (fresh j (by omega)), qo _ (by omega), wm_u1 (by omega)]
      exact ⟨by omega, b1, c1, d1, e1⟩
  · rw [wm_u1 (by omega)]
    by_cases z : j' = n
    · subst z
      rw [wm_u0]
      exact (h4 j a1 a2).1
    · rw [wm_u1 z]
      exact h5 j j' a1 a2 (by omega)
  · by_cases z : e = c
    · subst z
      rw [qo _ hc, ht] at ht'
      cases ht'
      exact ⟨n, by omega, by omega, wm_u0, by rw [wm_u0]; exact Nat.le_refl _⟩
    · have en : e / 13 < n := by
        have : e / 13 ≤ c / 13 := Nat.div_le_div_right (by omega)
        omega
      rw [qo _ en] at ht'
      obtain ⟨j, j1, j2, j3, j4⟩ := h6 e (by omega) en t' ht'
      exact ⟨j, j1, by omega, (qo j j2).trans j3, by rw [wm_u1 (by omega)]; exact j4⟩
/-- what is found later stands no nearer -/
theorem wm_mono (h : wm_B T V c n q κ d b) : ∀ j' j, j ≤ j' → j' < n → d j ≤ d j' := by
  obtain ⟨h1, h2, h3, h4, h5, h6, h7⟩ := h
  intro j'
  induction j' using Nat.strongRecOn with
  | _ j' ih =>
    intro j hj hn
    by_cases z : j = j'
    · rw [z]
      exact Nat.le_refl _
    by_cases z0 : j = 0
    · rw [z0, h1.2.2]
      exact Nat.zero_le _
    obtain ⟨-, a2, -, -, a5⟩ := h4 j' (by omega) hn
    obtain ⟨-, b2, -, -, b5⟩ := h4 j (by omega) (by omega)
    have k := h5 j j' (by omega) (by omega) hn
    have := ih (κ j' / 13) a2 (κ j / 13) (Nat.div_le_div_right (Nat.le_of_lt k)) (by omega)
    omega
/-- from what was found an end is no nearer than the distance says -/
theorem wm_dist (hF : wm_F T fin F) (h : wm_B T V c n q κ d b) (hn : ∀ k, 13 * k < c → ¬ fin (q k)) : ∀ j, j < n → F (q j) ≠ -1 → F 0 ≠ -1 ∧ F 0 ≤ F (q j) + d j := by
  obtain ⟨h1, h2, h3, h4, h5, h6, h7⟩ := h
  intro j
  induction j using Nat.strongRecOn with
  | _ j ih =>
    intro hj hf
    by_cases z : j = 0
    · subst z
      rw [h1.1.2] at hf ⊢
      exact ⟨hf, by rw [h1.2.2]; omega⟩
    · obtain ⟨a1, a2, a3, -, a5⟩ := h4 j (by omega) hj
      have g := ((hF _ (h2 (κ j / 13) (by omega)).1).2.2 (hn _ (by omega))).1 _ _ (Nat.mod_lt _ (by omega)) a3 hf
      have := ih _ a2 (by omega) g.1
      omega
/-- nothing is left to be found: there is no way -/
theorem wm_none (hT : wm_T T V) (hF : wm_F T fin F) (h : wm_B T V (13 * n) n q κ d b) (hn : ∀ k, k < n → ¬ fin (q k)) : F 0 = -1 := by
  have hh := h
  obtain ⟨h1, h2, h3, h4, h5, h6, h7⟩ := hh
  refine Classical.byContradiction (fun e => ?_)
  have go : ∀ m : Nat, ∃ j, j < n ∧ F (q j) ≠ -1 ∧ F (q j) + m = F 0 := fun m => by
    induction m with
    | zero => exact ⟨0, by omega, by rw [h1.1.2]; exact e, by rw [h1.1.2]; omega⟩
    | succ m ih =>
      obtain ⟨j, j1, j2, j3⟩ := ih
      obtain ⟨a, t, a1, a2, a3, a4⟩ := ((hF _ (h2 j j1).1).2.2 (hn j j1)).2 j2
      obtain ⟨j', k1, k2, k3, k4⟩ := h6 (13 * j + a) (by omega) (by omega) t (by
        rw [show (13 * j + a) / 13 = j by omega, show (13 * j + a) % 13 = a by omega]
        exact a2)
      exact ⟨j', k2, by rw [k3]; exact a3, by rw [k3]; omega⟩
  obtain ⟨j, j1, j2, j3⟩ := go ((F 0).toNat + 1)
  have := (hF _ (h2 j j1).1).1
  omega
/-- the first end that is found, breadth first, is the one that the distances lead to, act by act -/
theorem wm_way (hT : wm_T T V) (hF : wm_F T fin F) {i : Nat} (h : wm_B T V (13 * i) n q κ d b) (hi : i < n) (hfin : fin (q i)) (hn : ∀ k, k < i → ¬ fin (q k)) {N : Nat} {σ α : Nat → Nat} (hN : F 0 = (N : Int)) (h0 : σ 0 = 0)
    (hG : ∀ m, m < N → α m < 13 ∧ T (σ m) (α m) = some (σ (m + 1)) ∧ F (σ (m + 1)) + 1 = F (σ m) ∧ ∀ a t, a < α m → T (σ m) a = some t → F t + 1 ≠ F (σ m)) :
    σ N = q i ∧ ∀ m, m < N → b (σ (m + 1)) = ((16 * σ m + α m : Nat) : Int) := by
  have hn' : ∀ k, 13 * k < 13 * i → ¬ fin (q k) := fun k hk => hn k (by omega)
  have hd := wm_dist hF h hn'
  have hm := wm_mono h
  obtain ⟨h1, h2, h3, h4, h5, h6, h7⟩ := h
  have fi : F (q i) = 0 := (hF _ (h2 i hi).1).2.1 hfin
  have di := (hd i hi (by omega)).2
  have fs : ∀ m, m ≤ N → F (σ m) = (N : Int) - m := fun m => by
    induction m with
    | zero => exact fun _ => by rw [h0, hN]; omega
    | succ m ih =>
      intro hmN
      have a := ih (by omega)
      have b := (hG m (by omega)).2.2.1
      omega
  have up : ∀ j, 0 < j → j < n → F (q j) ≠ -1 → F (q (κ j / 13)) ≠ -1 ∧ F (q (κ j / 13)) ≤ F (q j) + 1 := fun j a1 a2 a3 => by
    obtain ⟨c1, c2, c3, -, -⟩ := h4 j a1 a2
    exact ((hF _ (h2 (κ j / 13) (by omega)).1).2.2 (hn' _ (by omega))).1 _ _ (Nat.mod_lt _ (by omega)) c3 a3
  have C : ∀ m, m ≤ N → (∀ k, k < m → b (σ (k + 1)) = ((16 * σ k + α k : Nat) : Int)) ∧ ∃ j, j < n ∧ j ≤ i ∧ q j = σ m ∧ d j = m ∧ ∀ j', j' < n → d j' = m → F (q j') = (N : Int) - m → j ≤ j' := fun m => by
    induction m with
    | zero => exact fun _ => ⟨fun k hk => by omega, 0, by omega, by omega, h1.1.2.trans h0.symm, h1.2.2, fun _ _ _ _ => by omega⟩
    | succ m ih =>
      intro hmN
      obtain ⟨ib, j, j1, j2, j3, j4, j5⟩ := ih (by omega)
      obtain ⟨g1, g2, g3, g4⟩ := hG m (by omega)
      have f1 := fs m (by omega)
      have f2 := fs (m + 1) hmN
      have ji : j < i := by
        rcases Nat.lt_or_ge j i with w | w
        · exact w
        · have : j = i := by omega
          subst this
          omega
      obtain ⟨k, k1, k2, k3, k4⟩ := h6 (13 * j + α m) (by omega) (by omega) (σ (m + 1)) (by
        rw [show (13 * j + α m) / 13 = j by omega, show (13 * j + α m) % 13 = α m by omega, j3]
        exact g2)
      have par : ∀ x, 0 < x → x < n → κ x ≤ 13 * j + α m → F (q x) = (N : Int) - (m + 1 : Nat) → d x = m + 1 ∧ κ x = 13 * j + α m := fun x x1 x2 x3 x4 => by
        obtain ⟨c1, c2, c3, c4, c5⟩ := h4 x x1 x2
        obtain ⟨u1, u2⟩ := up x x1 x2 (by omega)
        have dx := (hd x x2 (by omega)).2
        have dp := (hd (κ x / 13) (by omega) u1).2
        have kj : κ x / 13 ≤ j := by omega
        have mj := hm j (κ x / 13) kj j1
        have e1 : d (κ x / 13) = m := by omega
        have e2 : F (q (κ x / 13)) = (N : Int) - m := by omega
        have e3 := j5 (κ x / 13) (by omega) e1 e2
        have e4 : κ x / 13 = j := by omega
        refine ⟨by omega, ?_⟩
        rcases Nat.lt_or_ge (κ x % 13) (α m) with w | w
        · rw [e4, j3] at c3
          exact absurd (show F (q x) + 1 = F (σ m) by omega) (g4 _ _ w c3)
        · omega
      have ek : F (q k) = (N : Int) - (m + 1 : Nat) := by
        rw [k3]
        exact f2
      obtain ⟨p1, p2⟩ := par k k1 k2 k4 ek
      have mini : ∀ j', j' < n → d j' = m + 1 → F (q j') = (N : Int) - (m + 1 : Nat) → k ≤ j' := fun j' x1 x2 x3 => by
        rcases Nat.lt_or_ge j' k with w | w
        · have z : 0 < j' := by
            rcases Nat.eq_zero_or_pos j' with z | z
            · subst z
              omega
            · exact z
          have a := h5 j' k z w k2
          have := (par j' z x1 (by omega) x3).2
          omega
        · exact w
      refine ⟨fun y hy => ?_, k, k2, ?_, k3, p1, mini⟩
      · by_cases z : y = m
        · subst z
          obtain ⟨c1, c2, c3, c4, c5⟩ := h4 k k1 k2
          rw [k3, show κ k / 13 = j by omega, show κ k % 13 = α y by omega, j3] at c4
          exact c4
        · exact ib y (by omega)
      · rcases Nat.lt_or_ge i k with w | w
        · have a := hm k i (by omega) k2
          exact mini i hi (by omega) (by omega)
        · exact w
  obtain ⟨hb, j, j1, j2, j3, j4, j5⟩ := C N (Nat.le_refl _)
  refine ⟨?_, hb⟩
  rcases Nat.lt_or_ge j i with w | w
  · have fz : F (q j) = 0 := by
      rw [j3, fs N (Nat.le_refl _)]
      omega
    obtain ⟨a, t, a1, a2, a3, a4⟩ := ((hF _ (h2 j j1).1).2.2 (hn j w)).2 (by omega)
    obtain ⟨v1, v2, -⟩ := hT.2 _ _ _ (h2 j j1).1 a1 a2
    have := (hF t v2).1
    omega
  · have : j = i := by omega
    rw [← j3, this]
end WAYM
