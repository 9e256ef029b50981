/-! DECODING OUT OF A WINDOW OF THE CODE -/
section DQ
/-- w stands in c from k on, k a multiple of four -/
def dq_in (k : Nat) (w c : ByteArray) : Prop := k % 4 = 0 ∧ k + w.size ≤ c.size ∧ ∀ (i : Nat) (h : i < w.size) (h' : k + i < c.size), w[i] = c[k + i]
def dq_S {α : Type} (r : Jvm.ClassFile.Decoder α) : Prop := ∀ (k : Nat) (w c : ByteArray) (p q : Nat) (x : α), dq_in k w c → r w p = .ok (x, q) → r c (k + p) = .ok (x, k + q)
theorem dq_S.pure {α : Type} (a : α) : dq_S (pure a : Jvm.ClassFile.Decoder α) := by
  intro k w c p q x _ h
  have h : (Except.ok (a, p) : Except Jvm.ClassFile.DecodeError (α × Nat)) = .ok (x, q) := h
  cases h
  rfl
theorem dq_S.throw {α : Type} (e : Jvm.ClassFile.DecodeError) : dq_S (throw e : Jvm.ClassFile.Decoder α) := by
  intro k w c p q x _ h
  have h : (Except.error e : Except Jvm.ClassFile.DecodeError (α × Nat)) = .ok (x, q) := h
  cases h
theorem dq_S.bind {α β : Type} {r : Jvm.ClassFile.Decoder α} {f : α → Jvm.ClassFile.Decoder β} (hr : dq_S r) (hf : ∀ a, dq_S (f a)) : dq_S (r >>= f) := by
  intro k w c p q x hi h
  have h : Except.bind (r w p) (fun y => f y.1 w y.2) = .ok (x, q) := h
  show Except.bind (r c (k + p)) (fun y => f y.1 c y.2) = _
  cases hr1 : r w p with
  | error e => rw [hr1] at h; cases h
  | ok y =>
    obtain ⟨a, p'⟩ := y
    rw [hr1] at h
    rw [hr k w c p p' a hi hr1]
    exact hf a k w c p' q x hi h
theorem dq_S.map {α β : Type} {r : Jvm.ClassFile.Decoder α} {f : α → β} (hr : dq_S r) : dq_S (f <$> r) := by
  intro k w c p q x hi h
  have h : Except.map (fun y : α × Nat => (f y.1, y.2)) (r w p) = .ok (x, q) := by
    rw [← h]
    cases hr1 : r w p with
    | error e => show _ = Functor.map f r w p; simp [Functor.map, ReaderT.instFunctorOfMonad, StateT.map, bind, Except.bind, hr1, Except.map]
    | ok y => show _ = Functor.map f r w p; simp [Functor.map, StateT.map, bind, Except.bind, hr1, Except.map]
  cases hr1 : r w p with
  | error e => rw [hr1] at h; cases h
  | ok y =>
    obtain ⟨a, p'⟩ := y
    rw [hr1] at h
    cases h
    have h2 := hr k w c p p' a hi hr1
    show Functor.map f r c (k + p) = _
    simp [Functor.map, StateT.map, bind, Except.bind, h2]
    rfl
theorem dq_S.ite {α : Type} {C : Prop} [Decidable C] {r s : Jvm.ClassFile.Decoder α} (hr : dq_S r) (hs : dq_S s) : dq_S (if C then r else s) := by
  split
  · exact hr
  · exact hs
theorem dq_u1_ok {w : ByteArray} {p : Nat} (hp : p < w.size) : (Jvm.ClassFile.Reader.u1 : Jvm.ClassFile.Decoder Nat) w p = .ok (w[p].toNat, p + 1) := by
  have e : (Jvm.ClassFile.Reader.u1 : Jvm.ClassFile.Decoder Nat) w p = (dite (p < w.size) (fun h => (do set (p + 1); Pure.pure w[p].toNat : Jvm.ClassFile.Decoder Nat)) (fun _ => MonadExcept.throw (Jvm.ClassFile.HasTruncated.truncated p : Jvm.ClassFile.DecodeError))) w p := rfl
  rw [e, dif_pos hp]
  rfl
theorem dq_u1_no {w : ByteArray} {p : Nat} (hp : ¬ p < w.size) : (Jvm.ClassFile.Reader.u1 : Jvm.ClassFile.Decoder Nat) w p = .error (Jvm.ClassFile.HasTruncated.truncated p) := by
  have e : (Jvm.ClassFile.Reader.u1 : Jvm.ClassFile.Decoder Nat) w p = (dite (p < w.size) (fun h => (do set (p + 1); Pure.pure w[p].toNat : Jvm.ClassFile.Decoder Nat)) (fun _ => MonadExcept.throw (Jvm.ClassFile.HasTruncated.truncated p : Jvm.ClassFile.DecodeError))) w p := rfl
  rw [e, dif_neg hp]
  rfl
theorem dq_u1 : dq_S (Jvm.ClassFile.Reader.u1 : Jvm.ClassFile.Decoder Nat) := by
  intro k w c p q x hi h
  obtain ⟨h4, hs, hg⟩ := hi
  by_cases hp : p < w.size
  · rw [dq_u1_ok hp] at h
    cases h
    have hp' : k + p < c.size := by omega
    rw [dq_u1_ok hp', hg p hp hp']
    rfl
  · rw [dq_u1_no hp] at h
    cases h
theorem dq_u2 : dq_S (Jvm.ClassFile.Reader.u2 : Jvm.ClassFile.Decoder Nat) := dq_u1.bind fun _ => dq_u1.bind fun _ => dq_S.pure _
theorem dq_u4 : dq_S (Jvm.ClassFile.Reader.u4 : Jvm.ClassFile.Decoder Nat) := dq_u2.bind fun _ => dq_u2.bind fun _ => dq_S.pure _
theorem dq_s1 : dq_S (Jvm.ClassFile.Reader.s1 : Jvm.ClassFile.Decoder Int) := dq_u1.map
theorem dq_s2 : dq_S (Jvm.ClassFile.Reader.s2 : Jvm.ClassFile.Decoder Int) := dq_u2.map
theorem dq_s4 : dq_S (Jvm.ClassFile.Reader.s4 : Jvm.ClassFile.Decoder Int) := dq_u4.map
theorem dq_go {α : Type} {r : Jvm.ClassFile.Decoder α} (hr : dq_S r) : ∀ (n : Nat) (acc : Array α), dq_S (Jvm.ClassFile.Reader.times.go r n acc)
  | 0, acc => dq_S.pure acc
  | n + 1, acc => hr.bind fun _ => dq_go hr n _
theorem dq_times {α : Type} {r : Jvm.ClassFile.Decoder α} (n : Nat) (hr : dq_S r) : dq_S (Jvm.ClassFile.Reader.times n r) := dq_go hr n #[]
theorem dq_pad (v : ByteArray) (p : Nat) : Jvm.ClassFile.Decoder.padding v p = (if p + ((4 - p % 4) % 4) ≤ v.size then .ok ((), p + ((4 - p % 4) % 4)) else .error (Jvm.ClassFile.HasTruncated.truncated v.size) : Except Jvm.ClassFile.DecodeError (Unit × Nat)) := by
  have e : Jvm.ClassFile.Decoder.padding v p = Except.bind ((ite (p + ((4 - p % 4) % 4) ≤ v.size) (do set (p + ((4 - p % 4) % 4)); Pure.pure (v.extract p (p + ((4 - p % 4) % 4))) : Jvm.ClassFile.Decoder ByteArray) (MonadExcept.throw (Jvm.ClassFile.HasTruncated.truncated v.size : Jvm.ClassFile.DecodeError))) v p) (fun y => .ok ((), y.2)) := rfl
  rw [e]
  by_cases h : p + ((4 - p % 4) % 4) ≤ v.size
  · rw [if_pos h, if_pos h]; rfl
  · rw [if_neg h, if_neg h]; rfl
theorem dq_padding : dq_S Jvm.ClassFile.Decoder.padding := by
  intro k w c p q x hi h
  obtain ⟨h4, hs, -⟩ := hi
  rw [dq_pad] at h
  rw [dq_pad]
  have e : (k + p) % 4 = p % 4 := by omega
  rw [e]
  split at h
  · cases h
    rw [if_pos (by omega)]
    rw [Nat.add_assoc]
  · cases h
set_option maxRecDepth 100000 in
set_option maxHeartbeats 4000000 in
theorem dq_instr (pc : Nat) : dq_S (Jvm.ClassFile.Decoder.instr pc) := by
  have ht : dq_S (Jvm.ClassFile.Decoder.tableswitch pc) := by
    unfold Jvm.ClassFile.Decoder.tableswitch
    refine dq_padding.bind fun _ => dq_s4.bind fun _ => dq_s4.bind fun _ => dq_s4.bind fun _ => ?_
    repeat' first
      | exact dq_S.pure _
      | exact dq_S.throw _
      | exact dq_times _ dq_s4
      | refine dq_S.ite ?_ ?_
      | refine dq_S.bind ?_ fun _ => ?_
  have hl : dq_S (Jvm.ClassFile.Decoder.lookupswitch pc) := by
    unfold Jvm.ClassFile.Decoder.lookupswitch
    refine dq_padding.bind fun _ => dq_s4.bind fun _ => dq_s4.bind fun _ => ?_
    repeat' first
      | exact dq_S.pure _
      | exact dq_S.throw _
      | exact dq_s4
      | exact dq_times _ (dq_s4.bind fun _ => dq_s4.bind fun _ => dq_S.pure _)
      | refine dq_S.ite ?_ ?_
      | refine dq_S.bind ?_ fun _ => ?_
  have hi : dq_S (Jvm.ClassFile.Decoder.invokeinterface pc) := by
    unfold Jvm.ClassFile.Decoder.invokeinterface
    refine dq_u2.bind fun _ => dq_u1.bind fun _ => dq_u1.bind fun _ => ?_
    repeat' first
      | exact dq_S.pure _
      | exact dq_S.throw _
      | refine dq_S.ite ?_ ?_
      | refine dq_S.bind ?_ fun _ => ?_
  have hd : dq_S (Jvm.ClassFile.Decoder.invokedynamic pc) := by
    unfold Jvm.ClassFile.Decoder.invokedynamic
    refine dq_u2.bind fun _ => dq_u2.bind fun _ => ?_
    repeat' first
      | exact dq_S.pure _
      | exact dq_S.throw _
      | refine dq_S.ite ?_ ?_
      | refine dq_S.bind ?_ fun _ => ?_
  have hn : dq_S (Jvm.ClassFile.Decoder.newarray pc) := by
    unfold Jvm.ClassFile.Decoder.newarray
    refine dq_u1.bind fun _ => ?_
    split <;> first | exact dq_S.pure _ | exact dq_S.throw _
  have hm : dq_S (Jvm.ClassFile.Decoder.multianewarray pc) := by
    unfold Jvm.ClassFile.Decoder.multianewarray
    refine dq_u2.bind fun _ => dq_u1.bind fun _ => ?_
    repeat' first
      | exact dq_S.pure _
      | exact dq_S.throw _
      | refine dq_S.ite ?_ ?_
      | refine dq_S.bind ?_ fun _ => ?_
  have hw : dq_S (Jvm.ClassFile.Decoder.wide pc) := by
    unfold Jvm.ClassFile.Decoder.wide
    refine dq_u1.bind fun _ => ?_
    split <;> first | exact dq_u2.bind fun _ => dq_S.pure _ | exact dq_u2.bind fun _ => dq_s2.bind fun _ => dq_S.pure _ | exact dq_S.throw _
  unfold Jvm.ClassFile.Decoder.instr
  refine dq_u1.bind fun _ => ?_
  split <;> first
    | exact dq_S.pure _
    | exact dq_u2.bind fun _ => dq_S.pure _
    | exact dq_u1.bind fun _ => dq_S.pure _
    | exact dq_s2.bind fun _ => dq_S.pure _
    | exact dq_s1.bind fun _ => dq_S.pure _
    | exact dq_s4.bind fun _ => dq_S.pure _
    | exact dq_u1.bind fun _ => dq_s1.bind fun _ => dq_S.pure _
    | exact dq_S.throw _
    | exact ht
    | exact hl
    | exact hi
    | exact hd
    | exact hn
    | exact hm
    | exact hw
theorem dq_decode {k p n : Nat} {w c : ByteArray} {i : Jvm.ClassFile.Instr} (hi : dq_in k w c) (h : Jvm.ClassFile.Decoder.instr (k + p) w p = .ok (i, n)) : decode c (k + p) = .ok (i, k + n - (k + p)) := by
  have h1 := dq_instr (k + p) k w c p n i hi h
  show Except.bind (Jvm.ClassFile.Decoder.instr (k + p) c (k + p)) (fun y => (.ok (y.1, y.2 - (k + p)) : Except Jvm.ClassFile.DecodeError (Jvm.ClassFile.Instr × Nat))) = _
  rw [h1]
  rfl
noncomputable def dq_drop {α : Type} (n : Nat) : List α → List α := Nat.rec (fun l => l) (fun _ ih l => List.rec [] (fun _ t _ => ih t) l) n
theorem dq_drop_eq {α : Type} : ∀ (n : Nat) (l : List α), dq_drop n l = l.drop n
  | 0, l => rfl
  | n + 1, [] => rfl
  | n + 1, a :: l => by
    show dq_drop n l = _
    rw [dq_drop_eq n l, List.drop_succ_cons]
noncomputable def dq_take {α : Type} (n : Nat) : List α → List α := Nat.rec (fun _ => []) (fun _ ih l => List.rec [] (fun a t _ => a :: ih t) l) n
theorem dq_take_eq {α : Type} : ∀ (n : Nat) (l : List α), dq_take n l = l.take n
  | 0, l => by rw [List.take_zero]; rfl
  | n + 1, [] => rfl
  | n + 1, a :: l => by
    show a :: dq_take n l = _
    rw [dq_take_eq n l, List.take_succ_cons]
noncomputable def dq_blk {α : Type} (l : List α) (b : Nat) : List α := Nat.rec l (fun _ l' => dq_drop 64 l') b
theorem dq_blk_eq {α : Type} (l : List α) : ∀ b, dq_blk l b = l.drop (64 * b)
  | 0 => by rw [Nat.mul_zero, List.drop_zero]; rfl
  | b + 1 => by
    show dq_drop 64 (dq_blk l b) = _
    rw [dq_blk_eq l b, dq_drop_eq, List.drop_drop]
    congr 1
noncomputable def dq_win (c : ByteArray) (b o n : Nat) : ByteArray := ⟨⟨dq_take n (dq_drop o (dq_blk c.data.toList b))⟩⟩
theorem dq_win_in {c : ByteArray} {b o n : Nat} (ho : o % 4 = 0) (hk : 64 * b + o ≤ c.size) : dq_in (64 * b + o) (dq_win c b o n) c := by
  have e : (dq_win c b o n).data.toList = (c.data.toList.drop (64 * b + o)).take n := by
    show dq_take n (dq_drop o (dq_blk c.data.toList b)) = _
    rw [dq_take_eq, dq_drop_eq, dq_blk_eq, List.drop_drop]
  have hz : c.data.toList.length = c.size := rfl
  have ew : (dq_win c b o n).size = min n (c.size - (64 * b + o)) := by
    show (dq_win c b o n).data.toList.length = _
    rw [e, List.length_take, List.length_drop, hz]
  refine ⟨by omega, by rw [ew]; omega, fun i h h' => ?_⟩
  have h1 : i < (dq_win c b o n).data.toList.length := h
  show (dq_win c b o n).data.toList[i] = c.data.toList[64 * b + o + i]
  have : ((c.data.toList.drop (64 * b + o)).take n)[i]'(by rw [← e]; exact h1) = c.data.toList[64 * b + o + i] := by
    rw [List.getElem_take, List.getElem_drop]
  rw [← this]
  congr 1
/-- how many bytes of the code are looked at -/
noncomputable def dq_len (i : Jvm.ClassFile.Instr) : Nat := match i with
  | .tableswitch _ _ _ _ => 4096
  | .lookupswitch _ _ => 4096
  | _ => 8
noncomputable def dq_ok (c : ByteArray) (pc : Nat) (i : Jvm.ClassFile.Instr) (len : Nat) : Bool := match Jvm.ClassFile.Decoder.instr pc (dq_win c (pc / 64) (pc % 64 / 4 * 4) (dq_len i)) (pc % 4) with
  | .ok (j, n) => decide (j = i) && (Nat.beq n (pc % 4 + len) && Nat.ble pc c.size)
  | .error _ => false
theorem dq_ok_ok {c : ByteArray} {pc len : Nat} {i : Jvm.ClassFile.Instr} (h : dq_ok c pc i len = true) : decode c pc = .ok (i, len) := by
  unfold dq_ok at h
  have hk : 64 * (pc / 64) + pc % 64 / 4 * 4 + pc % 4 = pc := by omega
  split at h
  · rename_i j n e
    simp only [Bool.and_eq_true, decide_eq_true_eq] at h
    obtain ⟨h1, h2, h3⟩ := h
    have h2 := Nat.eq_of_beq_eq_true h2
    have h3 := Nat.le_of_ble_eq_true h3
    subst h1
    have hd := dq_decode (k := 64 * (pc / 64) + pc % 64 / 4 * 4) (p := pc % 4) (n := n) (i := j) (dq_win_in (c := c) (b := pc / 64) (o := pc % 64 / 4 * 4) (n := dq_len j) (by omega) (by omega)) (by rw [hk]; exact e)
    rw [hk] at hd
    rw [hd]
    congr 2
    omega
  · cases h
end DQ
/-! WORDS COMPARED: bytes one by one -/
noncomputable def bq_l (a b : List UInt8) : Bool := List.rec (motive := fun _ => List UInt8 → Bool) (fun b => List.rec (motive := fun _ => Bool) true (fun _ _ _ => false) b) (fun x _ ih b => List.rec (motive := fun _ => Bool) false (fun y b' _ => Bool.rec (motive := fun _ => Bool) false (ih b') (Nat.beq x.toNat y.toNat)) b) a b
theorem bq_l_ok : ∀ {a b : List UInt8}, bq_l a b = true → a = b
  | [], [], _ => rfl
  | [], _ :: _, h => by cases h
  | _ :: _, [], h => by cases h
  | x :: a, y :: b, h => by
    have h : Bool.rec (motive := fun _ => Bool) false (bq_l a b) (Nat.beq x.toNat y.toNat) = true := h
    cases e : Nat.beq x.toNat y.toNat with
    | false => rw [e] at h; cases h
    | true =>
      rw [e] at h
      have h : bq_l a b = true := h
      rw [UInt8.toNat_inj.mp (Nat.eq_of_beq_eq_true e), bq_l_ok h]
theorem bq_ok {a b : ByteArray} (h : bq_l a.data.toList b.data.toList = true) : a = b := by
  obtain ⟨⟨a⟩⟩ := a
  obtain ⟨⟨b⟩⟩ := b
  rw [show a = b from bq_l_ok h]
noncomputable def ft_eq (w u : Cond) : Bool := match w, u with
  | .code x b n r, .code x' b' n' r' => decide (x = x') && (bq_l b.data.toList b'.data.toList && (Nat.beq n n' && decide (r = r')))
  | .codeWith x b n r h, .codeWith x' b' n' r' h' => decide (x = x') && (bq_l b.data.toList b'.data.toList && (Nat.beq n n' && (decide (r = r') && decide (h = h'))))
  | w, u => decide (w = u)
theorem ft_eq_ok {w u : Cond} (h : ft_eq w u = true) : w = u := by
  unfold ft_eq at h
  split at h
  · simp only [Bool.and_eq_true, decide_eq_true_eq] at h
    obtain ⟨h1, h2, h3, h4⟩ := h
    rw [h1, bq_ok h2, Nat.eq_of_beq_eq_true h3, h4]
  · simp only [Bool.and_eq_true, decide_eq_true_eq] at h
    obtain ⟨h1, h2, h3, h4, h5⟩ := h
    rw [h1, bq_ok h2, Nat.eq_of_beq_eq_true h3, h4, h5]
  · exact of_decide_eq_true h
