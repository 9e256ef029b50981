/-! THE CLAIM (its end is the skeleton's) -/
noncomputable def st_r (xs : Nat → Int32) (t : Nat) : Int := if t = 0 then 0 else if t ≤ 10 then (xs (t - 1)).toInt else if t = 11 then (xs 0 &&& 63).toInt else 0
theorem st_i32 (x : Int32) : ai_lo32 ≤ x.toInt ∧ x.toInt ≤ ai_hi32 := by
  have h1 := x.le_toInt
  have h2 := x.toInt_lt
  show (-2147483648 : Int) ≤ x.toInt ∧ x.toInt ≤ 2147483647
  omega
theorem st_small {v : Int} (h : ai_lo32 ≤ v ∧ v ≤ ai_hi32) : ai_lo64 ≤ v ∧ v ≤ ai_hi64 := by
  have h : (-2147483648 : Int) ≤ v ∧ v ≤ 2147483647 := h
  show (-9223372036854775808 : Int) ≤ v ∧ v ≤ 9223372036854775807
  omega
theorem st_r0 {xs : Nat → Int32} : st_r xs 0 = 0 := rfl
theorem st_r1 {xs : Nat → Int32} {t : Nat} (h : t < 10) : st_r xs (t + 1) = (xs t).toInt := by
  unfold st_r
  rw [if_neg (Nat.succ_ne_zero t), if_pos (by omega)]
  rfl
theorem st_r11 {xs : Nat → Int32} : st_r xs 11 = (xs 0 &&& 63).toInt := rfl
theorem st_rb {xs : Nat → Int32} (t : Nat) : ai_lo32 ≤ st_r xs t ∧ st_r xs t ≤ ai_hi32 := by
  have z : ai_lo32 ≤ (0 : Int) ∧ (0 : Int) ≤ ai_hi32 := by
    show (-2147483648 : Int) ≤ 0 ∧ (0 : Int) ≤ 2147483647
    omega
  unfold st_r
  split
  · exact z
  · split
    · exact st_i32 _
    · split
      · exact st_i32 _
      · exact z
theorem st_bd_mem {q : Nat × Int × Int} : ∀ {n k : Nat}, q ∈ st_bd n k → ∃ j, k ≤ j ∧ j < k + n ∧ q = (j + 1, ai_lo32, ai_hi32)
  | 0, _, h => by cases h
  | n + 1, k, h => by
    rcases List.mem_cons.mp h with rfl | h
    · exact ⟨k, Nat.le_refl _, by omega, rfl⟩
    · obtain ⟨j, h1, h2, h3⟩ := st_bd_mem (n := n) (k := k + 1) h
      exact ⟨j, by omega, by omega, h3⟩
theorem st_at_ok {xs : Nat → Int32} {k : Nat} (hk : k < 10) : ∀ {cs : List (Nat × Int)}, (∀ q ∈ cs, (xs (q.1 - 1)).toInt = q.2) → (st_at (k + 1) cs).1 < 12 ∧ ai_vx (st_r xs) (st_at (k + 1) cs) = (xs k).toInt
  | [], _ => by
    refine ⟨by show k + 1 < 12; omega, ?_⟩
    show st_r xs (k + 1) + 0 = _
    rw [st_r1 hk]
    omega
  | (j, v) :: cs, h => by
    unfold st_at
    split
    · rename_i e
      have e := Nat.eq_of_beq_eq_true e
      have h1 := h _ List.mem_cons_self
      have h1 : (xs (j - 1)).toInt = v := h1
      rw [e] at h1
      have h1 : (xs k).toInt = v := h1
      refine ⟨by show 0 < 12; omega, ?_⟩
      show st_r xs 0 + v = _
      rw [st_r0, h1]
      omega
    · exact st_at_ok hk (fun q hq => h q (List.mem_cons_of_mem _ hq))
theorem st_ov_lw {xs : Nat → Int32} {cs : List (Nat × Int)} (h : ∀ q ∈ cs, (xs (q.1 - 1)).toInt = q.2) : ∀ {n k : Nat}, k + n ≤ 10 → ai_lw 12 (st_ov n k cs)
  | 0, _, _ => fun q hq => by cases hq
  | n + 1, k, hk => fun q hq => by
    rcases List.mem_cons.mp hq with rfl | hq
    · exact ⟨by show 0 < 12; omega, (st_at_ok (by omega) h).1⟩
    · exact st_ov_lw h (n := n) (k := k + 1) (by omega) q hq
theorem st_ov_ok {xs : Nat → Int32} {cs : List (Nat × Int)} (h : ∀ q ∈ cs, (xs (q.1 - 1)).toInt = q.2) (j : Nat) : ∀ {n k : Nat}, k + n ≤ 10 → ai_ov (st_r xs) ai_lo32 ai_hi32 (st_ov n k cs) j (xs j).toInt
  | 0, _, _ => st_i32 _
  | n + 1, k, hk => by
    refine ⟨fun e => ?_, fun _ => st_ov_ok h j (n := n) (k := k + 1) (by omega)⟩
    have e : st_r xs 0 + (k : Int) = (j : Int) := e
    rw [st_r0] at e
    have e : k = j := by omega
    subst e
    exact ((st_at_ok (by omega) h).2).symm
theorem st_and (x : Int32) : 0 ≤ (x &&& 63).toInt ∧ (x &&& 63).toInt ≤ 63 := ai_and_r (x := x) (y := 63) (by decide)
theorem st_gE {xs : Nat → Int32} {k1 k2 : Int} {bx : List (Nat × Int × Int)} (hk : k1 ≤ (xs 0 &&& 63).toInt ∧ (xs 0 &&& 63).toInt ≤ k2) (hbx : ∀ q ∈ bx, (1 ≤ q.1 ∧ q.1 ≤ 10) ∧ q.2.1 ≤ (xs (q.1 - 1)).toInt ∧ (xs (q.1 - 1)).toInt ≤ q.2.2) : ai_gE (st_r xs) (st_E k1 k2 bx) := by
  refine ⟨rfl, by show 0 < 12; omega, fun t _ => st_small (st_rb t), fun q hq => ?_, fun q hq => ?_⟩
  · rcases List.mem_cons.mp hq with rfl | hq
    · exact ⟨by show 11 < 12; omega, hk⟩
    · rcases List.mem_append.mp hq with hq | hq
      · obtain ⟨⟨h1, h2⟩, h3, h4⟩ := hbx q hq
        obtain ⟨t, lo, hi⟩ := q
        have h1 : 1 ≤ t := h1
        have h2 : t ≤ 10 := h2
        obtain ⟨u, rfl⟩ : ∃ u, t = u + 1 := ⟨t - 1, by omega⟩
        refine ⟨by show u + 1 < 12; omega, ?_⟩
        show lo ≤ st_r xs (u + 1) ∧ st_r xs (u + 1) ≤ hi
        rw [st_r1 (by omega)]
        exact ⟨h3, h4⟩
      · obtain ⟨j, h1, h2, rfl⟩ := st_bd_mem hq
        exact ⟨by show j + 1 < 12; omega, st_rb _⟩
  · rcases List.mem_cons.mp hq with rfl | hq
    · refine ⟨by show 11 < 12; omega, by show 1 < 12; omega, by show 0 < 12; omega, ?_⟩
      show (xs 0 &&& 63).toInt = (Int32.ofInt (st_r xs 1 + 0) &&& Int32.ofInt (st_r xs 0 + 63)).toInt
      rw [st_r1 (t := 0) (by omega), st_r0, Int.add_zero, Int.zero_add, Int32.ofInt_toInt]
      rfl
    · cases hq
theorem st_mk {tbl : List (Nat × List (Nat × ai_AA))} (h : tbl.all (fun q => q.2.all (fun z => !(Nat.beq z.1 99999))) = true) : ∀ mi, ai_marks tbl mi 99999 = none := by
  intro mi
  induction tbl with
  | nil => rfl
  | cons q t ih =>
    obtain ⟨m, l⟩ := q
    rw [List.all_cons, Bool.and_eq_true] at h
    unfold ai_marks
    cases Nat.beq m mi with
    | false => exact ih h.2
    | true =>
      have h1 := h.1
      clear ih h
      show ai_mark l 99999 = none
      induction l with
      | nil => rfl
      | cons z l ih =>
        obtain ⟨pc, A⟩ := z
        rw [List.all_cons, Bool.and_eq_true] at h1
        unfold ai_mark
        have e : Nat.beq pc 99999 = false := by
          have := h1.1
          cases e : Nat.beq pc 99999 with
          | false => rfl
          | true => simp [e] at this
        rw [e]
        exact ih h1.2
theorem mk_no_ok : ∀ mi, mk_no mi 99999 = none := fun _ => rfl
theorem mk_19_ok : ∀ mi, mk_19 mi 99999 = none := st_mk (by decide +kernel)
theorem mk_27_ok : ∀ mi, mk_27 mi 99999 = none := st_mk (by decide +kernel)
theorem mk_15_1_ok : ∀ mi, mk_15_1 mi 99999 = none := st_mk (by decide +kernel)
theorem mk_15_2_ok : ∀ mi, mk_15_2 mi 99999 = none := st_mk (by decide +kernel)
theorem mk_15_3_ok : ∀ mi, mk_15_3 mi 99999 = none := st_mk (by decide +kernel)
theorem mk_15_4_ok : ∀ mi, mk_15_4 mi 99999 = none := st_mk (by decide +kernel)
section CL
variable {p : Program} {e : Env} {s : State} {m : MethodId} {below : List Frame} {meth : Method} {c : Code} {b L : Nat} {xs : Nat → Int32}
theorem st_k (l : Launch) (hflags : l.flags = flags0) (C0 : lw_At p s m meth c b 10 xs) {mk : Nat → Nat → Option ai_AA} (hmk : ∀ mi, mk mi 99999 = none) {k1 k2 : Int} {bx : List (Nat × Int × Int)} {cs : List (Nat × Int)} (hev : st_yes (st_law mk (st_G k1 k2 bx cs)) = true) (hk : k1 ≤ (xs 0 &&& 63).toInt ∧ (xs 0 &&& 63).toInt ≤ k2)
    (hbx : ∀ q ∈ bx, (1 ≤ q.1 ∧ q.1 ≤ 10) ∧ q.2.1 ≤ (xs (q.1 - 1)).toInt ∧ (xs (q.1 - 1)).toInt ≤ q.2.2) (hcs : ∀ q ∈ cs, (xs (q.1 - 1)).toInt = q.2) : W p l e room_1 s m #[Value.ref b] below meth c s.heap [] 0 0 (lw_Z below #[Value.ref b] s) (entryFrame m ([Value.ref b] : List Value).toArray 7) :=
  st_go l hflags C0 hmk (r := st_r xs) (E := st_E k1 k2 bx) (ov := st_ov 10 0 cs) (st_gE hk hbx) ⟨st_ov_lw hcs (by omega), fun j _ => st_ov_ok hcs j (by omega)⟩ hev
theorem st_l (l : Launch) (hflags : l.flags = flags0) (C0 : lw_At p s m meth c b L xs) (hev : st_yes (st_law mk_no (st_G0 L)) = true) : W p l e room_1 s m #[Value.ref b] below meth c s.heap [] 0 0 (lw_Z below #[Value.ref b] s) (entryFrame m ([Value.ref b] : List Value).toArray 7) :=
  st_go l hflags C0 mk_no_ok (r := fun _ => 0) (E := (1, [], [])) (ov := []) ⟨rfl, by show 0 < 1; omega, fun t _ => st_small ⟨by show (-2147483648 : Int) ≤ 0; omega, by show (0 : Int) ≤ 2147483647; omega⟩, fun q hq => (by cases hq), fun q hq => (by cases hq)⟩ ⟨fun q hq => (by cases hq), fun j _ => st_i32 _⟩ hev
theorem st_nil {P : Nat × Int × Int → Prop} : ∀ q ∈ ([] : List (Nat × Int × Int)), P q := fun q hq => by cases hq
theorem st_nic {P : Nat × Int → Prop} : ∀ q ∈ ([] : List (Nat × Int)), P q := fun q hq => by cases hq
theorem st_b1 {t : Nat} {lo hi : Int} (ht : 1 ≤ t ∧ t ≤ 10) (h : lo ≤ (xs (t - 1)).toInt ∧ (xs (t - 1)).toInt ≤ hi) : ∀ q ∈ [(t, lo, hi)], (1 ≤ q.1 ∧ q.1 ≤ 10) ∧ q.2.1 ≤ (xs (q.1 - 1)).toInt ∧ (xs (q.1 - 1)).toInt ≤ q.2.2 := fun q hq => by
  rcases List.mem_cons.mp hq with rfl | hq
  · exact ⟨ht, h⟩
  · cases hq
theorem st_b2 {t u : Nat} {lo hi lo' hi' : Int} (ht : 1 ≤ t ∧ t ≤ 10) (hu : 1 ≤ u ∧ u ≤ 10) (h : lo ≤ (xs (t - 1)).toInt ∧ (xs (t - 1)).toInt ≤ hi) (h' : lo' ≤ (xs (u - 1)).toInt ∧ (xs (u - 1)).toInt ≤ hi') : ∀ q ∈ [(t, lo, hi), (u, lo', hi')], (1 ≤ q.1 ∧ q.1 ≤ 10) ∧ q.2.1 ≤ (xs (q.1 - 1)).toInt ∧ (xs (q.1 - 1)).toInt ≤ q.2.2 := fun q hq => by
  rcases List.mem_cons.mp hq with rfl | hq
  · exact ⟨ht, h⟩
  · exact st_b1 hu h' q hq
theorem st_c1 {t : Nat} {v : Int} (h : (xs (t - 1)).toInt = v) : ∀ q ∈ [(t, v)], (xs (q.1 - 1)).toInt = q.2 := fun q hq => by
  rcases List.mem_cons.mp hq with rfl | hq
  · exact h
  · cases hq
theorem st_c2 {t u : Nat} {v w : Int} (h : (xs (t - 1)).toInt = v) (h' : (xs (u - 1)).toInt = w) : ∀ q ∈ [(t, v), (u, w)], (xs (q.1 - 1)).toInt = q.2 := fun q hq => by
  rcases List.mem_cons.mp hq with rfl | hq
  · exact h
  · exact st_c1 h' q hq
theorem st_ten (l : Launch) (hflags : l.flags = flags0) (C0 : lw_At p s m meth c b 10 xs) : W p l e room_1 s m #[Value.ref b] below meth c s.heap [] 0 0 (lw_Z below #[Value.ref b] s) (entryFrame m ([Value.ref b] : List Value).toArray 7) := by
  have hk := st_and (xs 0)
  have i1 : (-2147483648 : Int) ≤ (xs 1).toInt ∧ (xs 1).toInt ≤ 2147483647 := st_i32 (xs 1)
  have i2 : (-2147483648 : Int) ≤ (xs 2).toInt ∧ (xs 2).toInt ≤ 2147483647 := st_i32 (xs 2)
  generalize hkk : (xs 0 &&& 63).toInt = kk at hk
  have cases : kk = 0 ∨ kk = 1 ∨ kk = 2 ∨ kk = 3 ∨ kk = 4 ∨ kk = 5 ∨ kk = 6 ∨ kk = 7 ∨ kk = 8 ∨ kk = 9 ∨ kk = 10 ∨ kk = 11 ∨ kk = 12 ∨ kk = 13 ∨ kk = 14 ∨ kk = 15 ∨ kk = 16 ∨ kk = 17 ∨ kk = 18 ∨ kk = 19 ∨ kk = 20 ∨ kk = 21 ∨ kk = 22 ∨ kk = 23 ∨ kk = 24 ∨ kk = 25 ∨ kk = 26 ∨ kk = 27 ∨ kk = 28 ∨ kk = 29 ∨ kk = 30 ∨ kk = 31 ∨ kk = 32 ∨ (33 ≤ kk ∧ kk ≤ 63) := by omega
  rcases cases with h | h | h | h | h | h | h | h | h | h | h | h | h | h | h | h | h | h | h | h | h | h | h | h | h | h | h | h | h | h | h | h | h | h
  · exact st_k l hflags C0 mk_no_ok ev_0_0 (by omega) st_nil st_nic
  · exact st_k l hflags C0 mk_no_ok ev_1_0 (by omega) st_nil st_nic
  · exact st_k l hflags C0 mk_no_ok ev_2_0 (by omega) st_nil st_nic
  · exact st_k l hflags C0 mk_no_ok ev_3_0 (by omega) st_nil st_nic
  · exact st_k l hflags C0 mk_no_ok ev_4_0 (by omega) st_nil st_nic
  · exact st_k l hflags C0 mk_no_ok ev_5_0 (by omega) st_nil st_nic
  · exact st_k l hflags C0 mk_no_ok ev_6_0 (by omega) st_nil st_nic
  · exact st_k l hflags C0 mk_no_ok ev_7_0 (by omega) st_nil st_nic
  · exact st_k l hflags C0 mk_no_ok ev_8_0 (by omega) st_nil st_nic
  · exact st_k l hflags C0 mk_no_ok ev_9_0 (by omega) st_nil st_nic
  · exact st_k l hflags C0 mk_no_ok ev_10_0 (by omega) st_nil st_nic
  · exact st_k l hflags C0 mk_no_ok ev_11_0 (by omega) st_nil st_nic
  · exact st_k l hflags C0 mk_no_ok ev_12_0 (by omega) st_nil st_nic
  · exact st_k l hflags C0 mk_no_ok ev_13_0 (by omega) st_nil st_nic
  · exact st_k l hflags C0 mk_no_ok ev_14_0 (by omega) st_nil st_nic
  · have cs : ((xs 1).toInt ≤ 0) ∨ ((xs 1).toInt = 1) ∨ ((xs 1).toInt = 2) ∨ ((xs 1).toInt = 3) ∨ ((xs 1).toInt = 4) ∨ (5 ≤ (xs 1).toInt) := by omega
    rcases cs with g | g | g | g | g | g
    · exact st_k l hflags C0 mk_no_ok ev_15_0 (by omega) (st_b1 ⟨by omega, by omega⟩ (show _ ≤ (xs 1).toInt ∧ (xs 1).toInt ≤ _ by omega)) st_nic
    · exact st_k l hflags C0 mk_15_1_ok ev_15_1 (by omega) (st_b1 ⟨by omega, by omega⟩ (show _ ≤ (xs 1).toInt ∧ (xs 1).toInt ≤ _ by omega)) (st_c1 (show (xs 1).toInt = _ by omega))
    · exact st_k l hflags C0 mk_15_2_ok ev_15_2 (by omega) (st_b1 ⟨by omega, by omega⟩ (show _ ≤ (xs 1).toInt ∧ (xs 1).toInt ≤ _ by omega)) (st_c1 (show (xs 1).toInt = _ by omega))
    · exact st_k l hflags C0 mk_15_3_ok ev_15_3 (by omega) (st_b1 ⟨by omega, by omega⟩ (show _ ≤ (xs 1).toInt ∧ (xs 1).toInt ≤ _ by omega)) (st_c1 (show (xs 1).toInt = _ by omega))
    · exact st_k l hflags C0 mk_15_4_ok ev_15_4 (by omega) (st_b1 ⟨by omega, by omega⟩ (show _ ≤ (xs 1).toInt ∧ (xs 1).toInt ≤ _ by omega)) (st_c1 (show (xs 1).toInt = _ by omega))
    · exact st_k l hflags C0 mk_no_ok ev_15_5 (by omega) (st_b1 ⟨by omega, by omega⟩ (show _ ≤ (xs 1).toInt ∧ (xs 1).toInt ≤ _ by omega)) st_nic
  · have cs : ((xs 2).toInt ≤ (-1)) ∨ ((xs 2).toInt = 0) ∨ ((xs 2).toInt = 1) ∨ (2 ≤ (xs 2).toInt) := by omega
    rcases cs with g | g | g | g
    · exact st_k l hflags C0 mk_no_ok ev_16_0 (by omega) (st_b1 ⟨by omega, by omega⟩ (show _ ≤ (xs 2).toInt ∧ (xs 2).toInt ≤ _ by omega)) st_nic
    · exact st_k l hflags C0 mk_no_ok ev_16_1 (by omega) (st_b1 ⟨by omega, by omega⟩ (show _ ≤ (xs 2).toInt ∧ (xs 2).toInt ≤ _ by omega)) (st_c1 (show (xs 2).toInt = _ by omega))
    · exact st_k l hflags C0 mk_no_ok ev_16_2 (by omega) (st_b1 ⟨by omega, by omega⟩ (show _ ≤ (xs 2).toInt ∧ (xs 2).toInt ≤ _ by omega)) (st_c1 (show (xs 2).toInt = _ by omega))
    · exact st_k l hflags C0 mk_no_ok ev_16_3 (by omega) (st_b1 ⟨by omega, by omega⟩ (show _ ≤ (xs 2).toInt ∧ (xs 2).toInt ≤ _ by omega)) st_nic
  · exact st_k l hflags C0 mk_no_ok ev_17_0 (by omega) st_nil st_nic
  · have cs : ((xs 1).toInt ≤ (-2)) ∨ ((xs 1).toInt = (-1) ∧ (xs 2).toInt ≤ (-1)) ∨ ((xs 1).toInt = (-1) ∧ (xs 2).toInt = 0) ∨ ((xs 1).toInt = (-1) ∧ 1 ≤ (xs 2).toInt) ∨ (0 ≤ (xs 1).toInt) := by omega
    rcases cs with g | g | g | g | g
    · exact st_k l hflags C0 mk_no_ok ev_18_0 (by omega) (st_b1 ⟨by omega, by omega⟩ (show _ ≤ (xs 1).toInt ∧ (xs 1).toInt ≤ _ by omega)) st_nic
    · exact st_k l hflags C0 mk_no_ok ev_18_1 (by omega) (st_b2 ⟨by omega, by omega⟩ ⟨by omega, by omega⟩ (show _ ≤ (xs 1).toInt ∧ (xs 1).toInt ≤ _ by omega) (show _ ≤ (xs 2).toInt ∧ (xs 2).toInt ≤ _ by omega)) (st_c1 (show (xs 1).toInt = _ by omega))
    · exact st_k l hflags C0 mk_no_ok ev_18_2 (by omega) (st_b2 ⟨by omega, by omega⟩ ⟨by omega, by omega⟩ (show _ ≤ (xs 1).toInt ∧ (xs 1).toInt ≤ _ by omega) (show _ ≤ (xs 2).toInt ∧ (xs 2).toInt ≤ _ by omega)) (st_c2 (show (xs 1).toInt = _ by omega) (show (xs 2).toInt = _ by omega))
    · exact st_k l hflags C0 mk_no_ok ev_18_3 (by omega) (st_b2 ⟨by omega, by omega⟩ ⟨by omega, by omega⟩ (show _ ≤ (xs 1).toInt ∧ (xs 1).toInt ≤ _ by omega) (show _ ≤ (xs 2).toInt ∧ (xs 2).toInt ≤ _ by omega)) (st_c1 (show (xs 1).toInt = _ by omega))
    · exact st_k l hflags C0 mk_no_ok ev_18_4 (by omega) (st_b1 ⟨by omega, by omega⟩ (show _ ≤ (xs 1).toInt ∧ (xs 1).toInt ≤ _ by omega)) st_nic
  · exact st_k l hflags C0 mk_19_ok ev_19_0 (by omega) st_nil st_nic
  · exact st_k l hflags C0 mk_no_ok ev_20_0 (by omega) st_nil st_nic
  · exact st_k l hflags C0 mk_no_ok ev_21_0 (by omega) st_nil st_nic
  · exact st_k l hflags C0 mk_no_ok ev_22_0 (by omega) st_nil st_nic
  · exact st_k l hflags C0 mk_no_ok ev_23_0 (by omega) st_nil st_nic
  · exact st_k l hflags C0 mk_no_ok ev_24_0 (by omega) st_nil st_nic
  · exact st_k l hflags C0 mk_no_ok ev_25_0 (by omega) st_nil st_nic
  · exact st_k l hflags C0 mk_no_ok ev_26_0 (by omega) st_nil st_nic
  · exact st_k l hflags C0 mk_27_ok ev_27_0 (by omega) st_nil st_nic
  · exact st_k l hflags C0 mk_no_ok ev_28_0 (by omega) st_nil st_nic
  · exact st_k l hflags C0 mk_no_ok ev_29_0 (by omega) st_nil st_nic
  · exact st_k l hflags C0 mk_no_ok ev_30_0 (by omega) st_nil st_nic
  · exact st_k l hflags C0 mk_no_ok ev_31_0 (by omega) st_nil st_nic
  · exact st_k l hflags C0 mk_no_ok ev_32_0 (by omega) st_nil st_nic
  · exact st_k l hflags C0 mk_no_ok ev_33_0 (by omega) st_nil st_nic
end CL
theorem whole_start {p : Program} {e : Env} {s : State} {m : MethodId} {below : List Frame} {meth : Method} {c : Code} (l : Launch) (hflags : l.flags = flags0) {b L : Nat} {xs : Nat → Int32} (hL : L ≤ 10) (C0 : lw_At p s m meth c b L xs) : W p l e room_1 s m #[Value.ref b] below meth c s.heap [] 0 0 (lw_Z below #[Value.ref b] s) (entryFrame m ([Value.ref b] : List Value).toArray 7) := by
  match L, hL, C0 with
  | 0, _, C0 => exact st_l l hflags C0 el_0
  | 1, _, C0 => exact st_l l hflags C0 el_1
  | 2, _, C0 => exact st_l l hflags C0 el_2
  | 3, _, C0 => exact st_l l hflags C0 el_3
  | 4, _, C0 => exact st_l l hflags C0 el_4
  | 5, _, C0 => exact st_l l hflags C0 el_5
  | 6, _, C0 => exact st_l l hflags C0 el_6
  | 7, _, C0 => exact st_l l hflags C0 el_7
  | 8, _, C0 => exact st_l l hflags C0 el_8
  | 9, _, C0 => exact st_l l hflags C0 el_9
  | 10, _, C0 => exact st_ten l hflags C0
  | n + 11, h, _ => omega
set_option maxHeartbeats 4000000 in
theorem lw_walk (l : Launch) (hflags : l.flags = flags0) (b : Addr) (xs : List Int32) : MetFree l x (headSpec (Jvm.Cond.code x code maxLocals ret :: tables_1) room_1) (lw_P b xs) (fun _ _ _ _ _ => True) lw_Q := by
  refine MetFree.of_bodyS (code := code) (maxLocals := maxLocals) (ret := ret) (by decide) ?_ ?_
  · intro args s m h hn
    obtain ⟨meth, c, h1, h2, h3, h4, h5, h6, -, -⟩ := Cond.code_spec hn (atoms_spec (ws := Jvm.Cond.code x code maxLocals ret :: tables_1) h _ List.mem_cons_self)
    exact ⟨meth, c, h1, h2, h3, h4, h5, h6⟩
  · intro p e s m args below meth c s₁ B hml0 hP _
    obtain ⟨rfl, hx, hbd, hgv⟩ := hP
    obtain ⟨scr, harrAt, hlist, hof, hsmall⟩ := hx
    obtain ⟨hcb, hkn, -, -⟩ := State.arrayAt?_spec harrAt
    have hown : s.vm.findClass R_law = some m.cls := findClass_of_methodNamed B.named
    have hts0 : ∀ c ∈ (Jvm.Cond.code x code maxLocals ret :: tables_1), c.before #[Value.ref b] s = true := atoms_spec (ws := Jvm.Cond.code x code maxLocals ret :: tables_1) B.pre
    have hts : ∀ w ∈ lw_tbl, w.before #[Value.ref b] s = true := k2_hts_sels lw_privs (fun w hw => hts0 w (List.mem_cons_of_mem _ hw)) lw_privs_ok
    have hml : c.maxLocals = 7 := B.maxLocals_eq (hts0 _ List.mem_cons_self)
    have X₀ : Stand p l e room_1 s m #[Value.ref b] below meth c s₁ [] 0 0 := Stand.of_body B
    have hh0 : s₁.heap = s.heap := by rw [B.state]; rfl
    have hsz : scr.slots.size = xs.length := by rw [← Array.length_toList, hlist, List.length_map]
    have hval : ∀ j : Nat, j < xs.length → scr.slots[j]? = some (.int (xs.getD j 0)) := fun j hj => by
      rw [← Array.getElem?_toList, hlist]
      simp [hj]
    have hbl : b < s.heap.size := (Array.getElem?_eq_some_iff.mp hcb).1
    have hX : va_X b xs.length (fun j => xs.getD j 0) s s.heap := ⟨scr, hcb, hof, hkn, hsz, hval⟩
    have K : W p l e room_1 s m #[Value.ref b] below meth c s₁.heap [] 0 0 (lw_Z below #[Value.ref b] s) (entryFrame m ([Value.ref b] : List Value).toArray 7) := by
      rw [hh0]
      exact whole_start l hflags hbd ⟨B.exec, B.bytes, B.returns, hml, hown, hts, hX, hbl, B.notSynchronized, hgv⟩
    obtain ⟨t, a1, o, b1, b2, b3⟩ := K s₁ rfl X₀
    exact ⟨t, o, a1, b1, b2, b3⟩
theorem lw_pre_spec {args : Array Value} {s : State} (h : (Jvm.Cond.and given_1 narrow_1).before args s = true) (hr : rest_1_c.before args s = true) : ∃ (b : Addr) (xs : List Int32), lw_P b xs args s := by
  have hs := flat_of_before _ h
  have hq := flat_of_before _ hr
  have hc : (Cond.count 1).before args s = true := hs _ (by decide +kernel)
  have harr : (Cond.arrayOf (.arg 0) .int).before args s = true := hs _ (by decide +kernel)
  have hle : (Cond.le (.length (.arg 0)) (.int 10)).before args s = true := hs _ (by decide +kernel)
  have hlen : (Cond.isInt (.length (.arg 0))).before args s = true := hq _ (by decide +kernel)
  have hall : (Cond.all (.arg 0) (.isInt (.elem (.arg 0) (.index 0)))).before args s = true := hq _ (by decide +kernel)
  obtain ⟨b, xs, hb, hx⟩ := State.ints_of_pre rfl harr hlen hall
  have hsm : xs.length < 2 ^ 31 := hx.choose_spec.2.2.2
  have hev : (Term.length (.arg 0)).eval args s none [] s = some (.int xs.length.toInt32) := hx.length_eval hb
  have hv := Cond.le_ints hev (show (Term.int 10).eval args s none [] s = some (.int 10) from rfl)
  have hd : xs.length.toInt32 ≤ 10 := by
    simpa [Cond.before, Cond.holds, hv] using hle
  have hN : xs.length ≤ 10 := (Int32.ofNat_le_ofNat hsm (by decide)).mp (show Int32.ofNat xs.length ≤ Int32.ofNat 10 from hd)
  exact ⟨b, xs, Cond.one_arg hc (show args[0]? = some (.ref b) from hb), hx, hN, h⟩
theorem lw_comes (l : Launch) (hflags : l.flags = flags0) : Comes l x (Jvm.Cond.code x code maxLocals ret :: tables_1) room_1 (fun tb e args s => Calls_1 tb e args s ∧ rest_1 tb e args s ∧ Pre_1 tb e args s)
    (fun _ _ args s o t => lw_Q args s o t) := by
  intro p e ha hc hk s m args below hf hfit hheap happ hpre
  obtain ⟨b, xs, hP⟩ := lw_pre_spec hpre.2.2 hpre.2.1
  obtain ⟨k, o, h1, h2, h3, hQ⟩ := lw_walk l hflags b xs p e ha hc hk s m args below hf ((Spec.applies_iff_loose hf).mp happ).1 hP trivial
  exact ⟨k, o, h1, h2, h3, hQ⟩
theorem lw_frame {s t : State} {o : Outcome} {args : Array Value} (h : Framed s o t [] 600002 7302232) :
    Framed s o t (fieldLocs frame_1_writes args s ++ arrayLocs frame_1_arrays args s ++ staticLocs frame_1_statics s) 600002 7302232 := h
theorem lw_limb (L : Cond) (hL : ∀ (args : Array Value) (s t : State), L.after args s (.returned (some (.int 1))) t = true) :
    ArmFor flags0 classFile x code maxLocals ret World_1 tables_1 room_1 Calls_1 rest_1 Pre_1
      (fun tb e a s o t => postC L tb e a s o t ∧ Framed s o t (fieldLocs frame_1_writes a s ++ arrayLocs frame_1_arrays a s ++ staticLocs frame_1_statics s) 600002 7302232) := by
  intro l hflags _ _ p e ha hc hk s m args below hf hfit hheap happ hpre
  obtain ⟨k, o, h1, h2, h3, rfl, hF⟩ := lw_comes l hflags p e ha hc hk s m args below hf hfit hheap happ hpre
  exact ⟨k, _, h1, h2, h3, hL args s _, lw_frame hF⟩
theorem i_vc : Claimed_1_1 ∧ Claimed_1_2 := ⟨lw_limb limb_1_1 (fun args s t => by simp [limb_1_1, Cond.after, Cond.holds, Cond.value]), lw_limb limb_1_2 (fun args s t => Cond.after_iff.mpr (by
  first | (rw [show limb_1_2 = Cond.eq .result (.int 1) from rfl, Cond.eq_ints (x := 1) (y := 1) rfl rfl]; simp; done) | (simp [limb_1_2, Cond.value, Term.eval]; done)))⟩
