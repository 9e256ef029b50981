/-! THE LEAST: two programs that try the same rows find the same -/
noncomputable def ze_R (K : Nat) (s s' : ze_S) : Prop := s.1 = s'.1 ∧ (s.1 ≠ -1 → ∀ k, k < K → s.2 k = s'.2 k)
noncomputable def ze_tot : Nat → (Nat → Int) → Int
  | 0, _ => 0
  | m + 1, t => ze_tot m t + t m
theorem ze_tot_c {t t' : Nat → Int} : ∀ {m : Nat}, (∀ k, k < m → t k = t' k) → ze_tot m t = ze_tot m t'
  | 0, _ => rfl
  | m + 1, h => by
    show ze_tot m t + t m = ze_tot m t' + t' m
    rw [ze_tot_c (fun k a => h k (by omega)), h m (Nat.lt_succ_self m)]
theorem ze_two {lo hi lo' hi' : Nat → Nat} {C C' : Nat → Nat → Int} {F F' : (Nat → Int) → Bool} {K e : Nat} {T : Int} (hm : ∀ m, m < K → (lo m = lo' m ∧ hi m = hi' m) ∧ ∀ u, u ≤ hi m → C m u = C' m u) (hp : ∀ k, K ≤ k → k < K + e → lo k = 0 ∧ hi k = 0 ∧ C k 0 = 0)
    (hF : ∀ t t', (∀ k, k < K → t k = t' k) → (∀ k, K ≤ k → k < K + e → t k = 0) → ze_tot K t' = T → F t = F' t') : ∀ {d m left : Nat} {sum : Int} {t t' : Nat → Int} {s s' : ze_S}, m + d = K → (∀ k, k < m → t k = t' k) → ze_tot m t' + (left : Int) = T → ze_R K s s' → ze_R K (ze_go lo hi C F (e + d) m left sum t s) (ze_go lo' hi' C' F' d m left sum t' s')
  | 0, m, left, sum, t, t', s, s', hd, ht, hT, hR => by
    have em : m = K := by omega
    subst em
    show ze_R m (ze_go lo hi C F e m left sum t s) (ze_lf F' left sum t' s')
    rw [ze_pad hp]
    obtain ⟨z, hz⟩ : ∃ z : Nat → Int, z = fun k => if m ≤ k ∧ k < m + e then 0 else t k := ⟨_, rfl⟩
    rw [← hz]
    have z1 : ∀ k, k < m → z k = t' k := fun k a => by
      rw [hz]
      show (if m ≤ k ∧ k < m + e then 0 else t k) = _
      rw [if_neg (by omega)]
      exact ht k a
    have z2 : ∀ k, m ≤ k → k < m + e → z k = 0 := fun k a b => by
      rw [hz]
      exact if_pos ⟨a, b⟩
    unfold ze_lf
    rw [hR.1]
    by_cases w : left = 0
    · rw [hF z t' z1 z2 (by rw [← hT, w]; exact (Int.add_zero _).symm)]
      by_cases q : left = 0 ∧ ((s'.1 = -1 ∨ sum < s'.1) ∧ F' t' = true)
      · rw [if_pos q, if_pos q]
        exact ⟨rfl, fun _ k a => z1 k a⟩
      · rw [if_neg q, if_neg q]
        exact hR
    · rw [if_neg (fun q => w q.1), if_neg (fun q => w q.1)]
      exact hR
  | d + 1, m, left, sum, t, t', s, s', hd, ht, hT, hR => by
    obtain ⟨⟨g1, g2⟩, g3⟩ := hm m (by omega)
    show ze_R K (ze_lp (fun u s => ze_go lo hi C F (e + d) (m + 1) (left - u) (sum + C m u) (ze_up t m (u : Int)) s) (ze_n (hi m) (lo m) left) (lo m) s) (ze_lp (fun u s => ze_go lo' hi' C' F' d (m + 1) (left - u) (sum + C' m u) (ze_up t' m (u : Int)) s) (ze_n (hi' m) (lo' m) left) (lo' m) s')
    rw [← g1, ← g2]
    refine ze_lp_r (R := ze_R K) (fun k s s' a b hR => ?_) hR
    have c := ze_k b a
    rw [← g3 k c.1]
    refine ze_two hm hp hF (by omega) (fun j hj => ?_) ?_ hR
    · unfold ze_up
      by_cases q : j = m
      · rw [if_pos q, if_pos q]
      · rw [if_neg q, if_neg q]
        exact ht j (by omega)
    · show ze_tot m (ze_up t' m (k : Int)) + ze_up t' m (k : Int) m + ((left - k : Nat) : Int) = T
      rw [show ze_tot m (ze_up t' m (k : Int)) = ze_tot m t' from ze_tot_c (fun j (hj : j < m) => (if_neg (by omega) : ze_up t' m (k : Int) j = t' j)), show ze_up t' m (k : Int) m = (k : Int) from if_pos rfl]
      omega
/-- what is found is none, or lies within bounds -/
theorem ze_lp_p {f : Nat → ze_S → ze_S} {R : ze_S → Prop} : ∀ {n u : Nat} {s : ze_S}, (∀ k s, u ≤ k → k < u + n → R s → R (f k s)) → R s → R (ze_lp f n u s)
  | 0, _, _, _, h => h
  | n + 1, u, s, h, h0 => ze_lp_p (f := f) (R := R) (n := n) (u := u + 1) (fun k s a b => h k s (by omega) (by omega)) (h u s (Nat.le_refl u) (by omega) h0)
theorem ze_bd {lo hi : Nat → Nat} {C : Nat → Nat → Int} {F : (Nat → Int) → Bool} {B : Int} (hC : ∀ m u, u ≤ hi m → 0 ≤ C m u ∧ C m u ≤ B) {G : Int} : ∀ {d m left : Nat} {sum : Int} {t : Nat → Int} {s : ze_S}, 0 ≤ sum → sum + (d : Int) * B ≤ G → (s.1 = -1 ∨ (0 ≤ s.1 ∧ s.1 ≤ G)) → (ze_go lo hi C F d m left sum t s).1 = -1 ∨ (0 ≤ (ze_go lo hi C F d m left sum t s).1 ∧ (ze_go lo hi C F d m left sum t s).1 ≤ G)
  | 0, m, left, sum, t, s, h0, hG, hs => by
    show (ze_lf F left sum t s).1 = -1 ∨ (0 ≤ (ze_lf F left sum t s).1 ∧ (ze_lf F left sum t s).1 ≤ G)
    have hG : sum + ((0 : Nat) : Int) * B ≤ G := hG
    unfold ze_lf
    split
    · refine Or.inr ⟨h0, ?_⟩
      show sum ≤ G
      rw [show ((0 : Nat) : Int) * B = 0 from Int.zero_mul B] at hG
      omega
    · exact hs
  | d + 1, m, left, sum, t, s, h0, hG, hs => by
    show (ze_lp (fun u s => ze_go lo hi C F d (m + 1) (left - u) (sum + C m u) (ze_up t m (u : Int)) s) (ze_n (hi m) (lo m) left) (lo m) s).1 = -1 ∨ _
    refine ze_lp_p (f := fun u s => ze_go lo hi C F d (m + 1) (left - u) (sum + C m u) (ze_up t m (u : Int)) s) (R := fun s => s.1 = -1 ∨ (0 ≤ s.1 ∧ s.1 ≤ G)) (fun k s a b hs => ?_) hs
    have c := hC m k (ze_k b a).1
    refine ze_bd hC (by omega) ?_ hs
    have e : ((d + 1 : Nat) : Int) * B = (d : Int) * B + B := by
      rw [Int.natCast_add, Int.add_mul]
      show (d : Int) * B + 1 * B = _
      rw [Int.one_mul]
    omega
