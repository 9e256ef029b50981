/-! THE SAME RUN, LAID OUT FOR THE KERNEL: an instruction of the table holds its own function -/
abbrev ai_U : Type := (Nat × Nat) → (Nat → List ai_V) → (Nat → Nat → Nat) → Nat → Nat → Nat → Nat → List ai_V → List ai_V → ai_G → Option ai_S
abbrev fr_J : Type := (i : ClassFile.Instr) × {q : ai_U × Bool × (List (ai_R × ai_G) → Bool) // q = (ai_step i, ai_ends i, ai_calm i)}
noncomputable def gs_iconst (n : Int) : ai_U := fun bud dflt kind pc nx a b L S G => ai_go nx L (.inl (0, n) :: S) G
noncomputable def js_iconst (n : Int) : fr_J := ⟨.iconst n, ⟨(gs_iconst n, false, fun _ => false), rfl⟩⟩
noncomputable def gs_bipush (n : Int) : ai_U := fun bud dflt kind pc nx a b L S G => ai_go nx L (.inl (0, n) :: S) G
noncomputable def js_bipush (n : Int) : fr_J := ⟨.bipush n, ⟨(gs_bipush n, false, fun _ => false), rfl⟩⟩
noncomputable def gs_sipush (n : Int) : ai_U := fun bud dflt kind pc nx a b L S G => ai_go nx L (.inl (0, n) :: S) G
noncomputable def js_sipush (n : Int) : fr_J := ⟨.sipush n, ⟨(gs_sipush n, false, fun _ => false), rfl⟩⟩
noncomputable def gs_lconst (n : Fin 2) : ai_U := fun bud dflt kind pc nx a b L S G => ai_go nx L (.inr (.inl (0, .ofNat n.val)) :: S) G
noncomputable def js_lconst (n : Fin 2) : fr_J := ⟨.lconst n, ⟨(gs_lconst n, false, fun _ => false), rfl⟩⟩
noncomputable def gs_ldc (u0 : Nat) : ai_U := fun bud dflt kind pc nx a b L S G => match a with
    | 0 => ai_go nx L (.inl (0, Int.ofNat b - 2147483648) :: S) G
    | _ + 1 => ai_go nx L (.inr (.inr (some (some b))) :: S) G
noncomputable def js_ldc (u0 : Nat) : fr_J := ⟨.ldc u0, ⟨(gs_ldc u0, false, fun _ => false), rfl⟩⟩
noncomputable def gs_ldc_w (u0 : Nat) : ai_U := fun bud dflt kind pc nx a b L S G => match a with
    | 0 => ai_go nx L (.inl (0, Int.ofNat b - 2147483648) :: S) G
    | _ + 1 => ai_go nx L (.inr (.inr (some (some b))) :: S) G
noncomputable def js_ldc_w (u0 : Nat) : fr_J := ⟨.ldc_w u0, ⟨(gs_ldc_w u0, false, fun _ => false), rfl⟩⟩
noncomputable def gs_iload (n : Nat) : ai_U := fun bud dflt kind pc nx a b L S G => ai_load ai_int n nx L S G
noncomputable def js_iload (n : Nat) : fr_J := ⟨.iload n, ⟨(gs_iload n, false, fun _ => false), rfl⟩⟩
noncomputable def gs_iload_n (n : Fin 4) : ai_U := fun bud dflt kind pc nx a b L S G => ai_load ai_int n.val nx L S G
noncomputable def js_iload_n (n : Fin 4) : fr_J := ⟨.iload_n n, ⟨(gs_iload_n n, false, fun _ => false), rfl⟩⟩
noncomputable def gs_lload (n : Nat) : ai_U := fun bud dflt kind pc nx a b L S G => ai_load ai_lng n nx L S G
noncomputable def js_lload (n : Nat) : fr_J := ⟨.lload n, ⟨(gs_lload n, false, fun _ => false), rfl⟩⟩
noncomputable def gs_lload_n (n : Fin 4) : ai_U := fun bud dflt kind pc nx a b L S G => ai_load ai_lng n.val nx L S G
noncomputable def js_lload_n (n : Fin 4) : fr_J := ⟨.lload_n n, ⟨(gs_lload_n n, false, fun _ => false), rfl⟩⟩
noncomputable def gs_aload (n : Nat) : ai_U := fun bud dflt kind pc nx a b L S G => ai_load ai_ref n nx L S G
noncomputable def js_aload (n : Nat) : fr_J := ⟨.aload n, ⟨(gs_aload n, false, fun _ => false), rfl⟩⟩
noncomputable def gs_aload_n (n : Fin 4) : ai_U := fun bud dflt kind pc nx a b L S G => ai_load ai_ref n.val nx L S G
noncomputable def js_aload_n (n : Fin 4) : fr_J := ⟨.aload_n n, ⟨(gs_aload_n n, false, fun _ => false), rfl⟩⟩
noncomputable def gs_istore (n : Nat) : ai_U := fun bud dflt kind pc nx a b L S G => ai_stor ai_int n nx L S G
noncomputable def js_istore (n : Nat) : fr_J := ⟨.istore n, ⟨(gs_istore n, false, fun _ => false), rfl⟩⟩
noncomputable def gs_istore_n (n : Fin 4) : ai_U := fun bud dflt kind pc nx a b L S G => ai_stor ai_int n.val nx L S G
noncomputable def js_istore_n (n : Fin 4) : fr_J := ⟨.istore_n n, ⟨(gs_istore_n n, false, fun _ => false), rfl⟩⟩
noncomputable def gs_astore (n : Nat) : ai_U := fun bud dflt kind pc nx a b L S G => ai_stor ai_ref n nx L S G
noncomputable def js_astore (n : Nat) : fr_J := ⟨.astore n, ⟨(gs_astore n, false, fun _ => false), rfl⟩⟩
noncomputable def gs_astore_n (n : Fin 4) : ai_U := fun bud dflt kind pc nx a b L S G => ai_stor ai_ref n.val nx L S G
noncomputable def js_astore_n (n : Fin 4) : fr_J := ⟨.astore_n n, ⟨(gs_astore_n n, false, fun _ => false), rfl⟩⟩
noncomputable def gs_lstore (n : Nat) : ai_U := fun bud dflt kind pc nx a b L S G => ai_stol n nx L S G
noncomputable def js_lstore (n : Nat) : fr_J := ⟨.lstore n, ⟨(gs_lstore n, false, fun _ => false), rfl⟩⟩
noncomputable def gs_lstore_n (n : Fin 4) : ai_U := fun bud dflt kind pc nx a b L S G => ai_stol n.val nx L S G
noncomputable def js_lstore_n (n : Fin 4) : fr_J := ⟨.lstore_n n, ⟨(gs_lstore_n n, false, fun _ => false), rfl⟩⟩
noncomputable def gs_iinc (n : Nat) (k : Int) : ai_U := fun bud dflt kind pc nx a b L S G => match ai_lget L n with
    | .inl x => match G with
      | (E, h, c, s) => match ai_bin E 0 x (0, k) with
        | (z, E) => match Nat.blt n L.length with
          | true => ai_go nx (ai_lset L n (.inl z)) S (E, h, c, s)
          | false => none
    | _ => none
noncomputable def js_iinc (n : Nat) (k : Int) : fr_J := ⟨.iinc n k, ⟨(gs_iinc n k, false, fun _ => false), rfl⟩⟩
noncomputable def gs_iadd : ai_U := fun bud dflt kind pc nx a b L S G => ai_s2 0 nx L S G
noncomputable def js_iadd : fr_J := ⟨.iadd, ⟨(gs_iadd, false, fun _ => false), rfl⟩⟩
noncomputable def gs_isub : ai_U := fun bud dflt kind pc nx a b L S G => ai_s2 1 nx L S G
noncomputable def js_isub : fr_J := ⟨.isub, ⟨(gs_isub, false, fun _ => false), rfl⟩⟩
noncomputable def gs_imul : ai_U := fun bud dflt kind pc nx a b L S G => ai_s2 2 nx L S G
noncomputable def js_imul : fr_J := ⟨.imul, ⟨(gs_imul, false, fun _ => false), rfl⟩⟩
noncomputable def gs_idiv : ai_U := fun bud dflt kind pc nx a b L S G => match S with
    | .inl y :: _ => match ai_nz G.1 y with
      | true => ai_s2 3 nx L S G
      | false => none
    | _ => none
noncomputable def js_idiv : fr_J := ⟨.idiv, ⟨(gs_idiv, false, fun _ => false), rfl⟩⟩
noncomputable def gs_irem : ai_U := fun bud dflt kind pc nx a b L S G => match S with
    | .inl y :: _ => match ai_nz G.1 y with
      | true => ai_s2 4 nx L S G
      | false => none
    | _ => none
noncomputable def js_irem : fr_J := ⟨.irem, ⟨(gs_irem, false, fun _ => false), rfl⟩⟩
noncomputable def gs_iand : ai_U := fun bud dflt kind pc nx a b L S G => ai_s2 5 nx L S G
noncomputable def js_iand : fr_J := ⟨.iand, ⟨(gs_iand, false, fun _ => false), rfl⟩⟩
noncomputable def gs_ior : ai_U := fun bud dflt kind pc nx a b L S G => ai_s2 6 nx L S G
noncomputable def js_ior : fr_J := ⟨.ior, ⟨(gs_ior, false, fun _ => false), rfl⟩⟩
noncomputable def gs_ixor : ai_U := fun bud dflt kind pc nx a b L S G => ai_s2 7 nx L S G
noncomputable def js_ixor : fr_J := ⟨.ixor, ⟨(gs_ixor, false, fun _ => false), rfl⟩⟩
noncomputable def gs_ishl : ai_U := fun bud dflt kind pc nx a b L S G => ai_s2 8 nx L S G
noncomputable def js_ishl : fr_J := ⟨.ishl, ⟨(gs_ishl, false, fun _ => false), rfl⟩⟩
noncomputable def gs_ishr : ai_U := fun bud dflt kind pc nx a b L S G => ai_s2 9 nx L S G
noncomputable def js_ishr : fr_J := ⟨.ishr, ⟨(gs_ishr, false, fun _ => false), rfl⟩⟩
noncomputable def gs_iushr : ai_U := fun bud dflt kind pc nx a b L S G => ai_s2 10 nx L S G
noncomputable def js_iushr : fr_J := ⟨.iushr, ⟨(gs_iushr, false, fun _ => false), rfl⟩⟩
noncomputable def gs_ineg : ai_U := fun bud dflt kind pc nx a b L S G => match S with
    | .inl y :: S => ai_s2 1 nx L (.inl y :: .inl (0, 0) :: S) G
    | _ => none
noncomputable def js_ineg : fr_J := ⟨.ineg, ⟨(gs_ineg, false, fun _ => false), rfl⟩⟩
noncomputable def gs_ladd : ai_U := fun bud dflt kind pc nx a b L S G => ai_l2 20 nx L S G
noncomputable def js_ladd : fr_J := ⟨.ladd, ⟨(gs_ladd, false, fun _ => false), rfl⟩⟩
noncomputable def gs_lsub : ai_U := fun bud dflt kind pc nx a b L S G => ai_l2 21 nx L S G
noncomputable def js_lsub : fr_J := ⟨.lsub, ⟨(gs_lsub, false, fun _ => false), rfl⟩⟩
noncomputable def gs_lmul : ai_U := fun bud dflt kind pc nx a b L S G => ai_l2 22 nx L S G
noncomputable def js_lmul : fr_J := ⟨.lmul, ⟨(gs_lmul, false, fun _ => false), rfl⟩⟩
noncomputable def gs_ldiv : ai_U := fun bud dflt kind pc nx a b L S G => match S with
    | .inr (.inl y) :: _ => match ai_nz G.1 y with
      | true => ai_l2 23 nx L S G
      | false => none
    | _ => none
noncomputable def js_ldiv : fr_J := ⟨.ldiv, ⟨(gs_ldiv, false, fun _ => false), rfl⟩⟩
noncomputable def gs_lrem : ai_U := fun bud dflt kind pc nx a b L S G => match S with
    | .inr (.inl y) :: _ => match ai_nz G.1 y with
      | true => ai_l2 24 nx L S G
      | false => none
    | _ => none
noncomputable def js_lrem : fr_J := ⟨.lrem, ⟨(gs_lrem, false, fun _ => false), rfl⟩⟩
noncomputable def gs_lneg : ai_U := fun bud dflt kind pc nx a b L S G => match S with
    | .inr (.inl y) :: S => ai_l2 21 nx L (.inr (.inl y) :: .inr (.inl (0, 0)) :: S) G
    | _ => none
noncomputable def js_lneg : fr_J := ⟨.lneg, ⟨(gs_lneg, false, fun _ => false), rfl⟩⟩
noncomputable def gs_lcmp : ai_U := fun bud dflt kind pc nx a b L S G => match S with
    | .inr (.inl y) :: .inr (.inl x) :: S => match G with
      | (E, h, c, s) => match ai_bin E 25 x y with
        | (z, E) => ai_go nx L (.inl z :: S) (E, h, c, s)
    | _ => none
noncomputable def js_lcmp : fr_J := ⟨.lcmp, ⟨(gs_lcmp, false, fun _ => false), rfl⟩⟩
noncomputable def gs_i2l : ai_U := fun bud dflt kind pc nx a b L S G => match S with
    | .inl x :: S => ai_go nx L (.inr (.inl x) :: S) G
    | _ => none
noncomputable def js_i2l : fr_J := ⟨.i2l, ⟨(gs_i2l, false, fun _ => false), rfl⟩⟩
noncomputable def gs_l2i : ai_U := fun bud dflt kind pc nx a b L S G => match S with
    | .inr (.inl x) :: S => match G with
      | (E, h, c, s) => match ai_l2i E x with
        | (z, E) => ai_go nx L (.inl z :: S) (E, h, c, s)
    | _ => none
noncomputable def js_l2i : fr_J := ⟨.l2i, ⟨(gs_l2i, false, fun _ => false), rfl⟩⟩
noncomputable def gs_i2s : ai_U := fun bud dflt kind pc nx a b L S G => match S with
    | .inl x :: S => match G with
      | (E, h, c, s) => match ai_i2s E x with
        | (z, E) => ai_go nx L (.inl z :: S) (E, h, c, s)
    | _ => none
noncomputable def js_i2s : fr_J := ⟨.i2s, ⟨(gs_i2s, false, fun _ => false), rfl⟩⟩
noncomputable def gs_lookupswitch (d : Int) (ps : Array (Int × Int)) : ai_U := fun bud dflt kind pc nx a b L S G => ai_lsw d ps.toList pc L S G
noncomputable def js_lookupswitch (d : Int) (ps : Array (Int × Int)) : fr_J := ⟨.lookupswitch d ps, ⟨(gs_lookupswitch d ps, false, fun _ => false), rfl⟩⟩
noncomputable def gs_dup : ai_U := fun bud dflt kind pc nx a b L S G => match S with
    | v :: S => match ai_one v with
      | false => none
      | true => ai_go nx L (v :: v :: S) G
    | _ => none
noncomputable def js_dup : fr_J := ⟨.dup, ⟨(gs_dup, false, fun _ => false), rfl⟩⟩
noncomputable def gs_dup2 : ai_U := fun bud dflt kind pc nx a b L S G => match S with
    | v :: S => match ai_lng v with
      | true => ai_go nx L (v :: v :: S) G
      | false => match S with
        | w :: S => match ai_one v, ai_one w with
          | true, true => ai_go nx L (v :: w :: v :: w :: S) G
          | _, _ => none
        | _ => none
    | _ => none
noncomputable def js_dup2 : fr_J := ⟨.dup2, ⟨(gs_dup2, false, fun _ => false), rfl⟩⟩
noncomputable def gs_pop : ai_U := fun bud dflt kind pc nx a b L S G => match S with
    | v :: S => match ai_one v with
      | false => none
      | true => ai_go nx L S G
    | _ => none
noncomputable def js_pop : fr_J := ⟨.pop, ⟨(gs_pop, false, fun _ => false), rfl⟩⟩
noncomputable def gs_goto (u0 : Int) : ai_U := fun bud dflt kind pc nx a b L S G => ai_go a L S G
noncomputable def js_goto (u0 : Int) : fr_J := ⟨.goto u0, ⟨(gs_goto u0, false, fun _ => false), rfl⟩⟩
noncomputable def gs_ifCond (o : ClassFile.Cond) (u1 : Int) : ai_U := fun bud dflt kind pc nx a b L S G => match S with
    | .inl x :: S => ai_branch (ai_cno o) a nx x (0, 0) L S G
    | _ => none
noncomputable def js_ifCond (o : ClassFile.Cond) (u1 : Int) : fr_J := ⟨.ifCond o u1, ⟨(gs_ifCond o u1, false, fun _ => false), rfl⟩⟩
noncomputable def gs_if_icmp (o : ClassFile.Cond) (u1 : Int) : ai_U := fun bud dflt kind pc nx a b L S G => match S with
    | .inl y :: .inl x :: S => ai_branch (ai_cno o) a nx x y L S G
    | _ => none
noncomputable def js_if_icmp (o : ClassFile.Cond) (u1 : Int) : fr_J := ⟨.if_icmp o u1, ⟨(gs_if_icmp o u1, false, fun _ => false), rfl⟩⟩
noncomputable def gs_tableswitch (d : Int) (lo : Int) (hi : Int) (offs : Array Int) : ai_U := fun bud dflt kind pc nx a b L S G => ai_tsw d lo hi offs.toList pc L S G
noncomputable def js_tableswitch (d : Int) (lo : Int) (hi : Int) (offs : Array Int) : fr_J := ⟨.tableswitch d lo hi offs, ⟨(gs_tableswitch d lo hi offs, false, fun _ => false), rfl⟩⟩
noncomputable def gs_getfield (u0 : Nat) : ai_U := fun bud dflt kind pc nx a b L S G => ai_getf a b nx L S G
noncomputable def js_getfield (u0 : Nat) : fr_J := ⟨.getfield u0, ⟨(gs_getfield u0, false, fun _ => false), rfl⟩⟩
noncomputable def gs_putfield (u0 : Nat) : ai_U := fun bud dflt kind pc nx a b L S G => ai_putf kind a b nx L S G
noncomputable def js_putfield (u0 : Nat) : fr_J := ⟨.putfield u0, ⟨(gs_putfield u0, false, fun _ => false), rfl⟩⟩
noncomputable def gs_iaload : ai_U := fun bud dflt kind pc nx a b L S G => ai_read 0 nx L S G
noncomputable def js_iaload : fr_J := ⟨.iaload, ⟨(gs_iaload, false, fun _ => false), rfl⟩⟩
noncomputable def gs_laload : ai_U := fun bud dflt kind pc nx a b L S G => ai_read 1 nx L S G
noncomputable def js_laload : fr_J := ⟨.laload, ⟨(gs_laload, false, fun _ => false), rfl⟩⟩
noncomputable def gs_baload : ai_U := fun bud dflt kind pc nx a b L S G => ai_read 2 nx L S G
noncomputable def js_baload : fr_J := ⟨.baload, ⟨(gs_baload, false, fun _ => false), rfl⟩⟩
noncomputable def gs_iastore : ai_U := fun bud dflt kind pc nx a b L S G => ai_writ 0 nx L S G
noncomputable def js_iastore : fr_J := ⟨.iastore, ⟨(gs_iastore, false, fun _ => false), rfl⟩⟩
noncomputable def gs_lastore : ai_U := fun bud dflt kind pc nx a b L S G => ai_writ 1 nx L S G
noncomputable def js_lastore : fr_J := ⟨.lastore, ⟨(gs_lastore, false, fun _ => false), rfl⟩⟩
noncomputable def gs_bastore : ai_U := fun bud dflt kind pc nx a b L S G => ai_writ 2 nx L S G
noncomputable def js_bastore : fr_J := ⟨.bastore, ⟨(gs_bastore, false, fun _ => false), rfl⟩⟩
noncomputable def gs_aaload : ai_U := fun bud dflt kind pc nx a b L S G => ai_aget nx L S G
noncomputable def js_aaload : fr_J := ⟨.aaload, ⟨(gs_aaload, false, fun _ => false), rfl⟩⟩
noncomputable def gs_aastore : ai_U := fun bud dflt kind pc nx a b L S G => ai_aput nx L S G
noncomputable def js_aastore : fr_J := ⟨.aastore, ⟨(gs_aastore, false, fun _ => false), rfl⟩⟩
noncomputable def gs_arraylength : ai_U := fun bud dflt kind pc nx a b L S G => ai_alen nx L S G
noncomputable def js_arraylength : fr_J := ⟨.arraylength, ⟨(gs_arraylength, false, fun _ => false), rfl⟩⟩
noncomputable def gs_new (u0 : Nat) : ai_U := fun bud dflt kind pc nx a b L S G => match Nat.ble 2000 a with
    | true => match S with
      | [] => match G with
        | (_, _, c, s) => match Nat.ble (c + 1) bud.1, Nat.ble (s + 6) bud.2 with
          | true, true => some (.inr (.inr (.inl (Nat.sub a 2000))))
          | _, _ => none
      | _ :: _ => none
    | false => match dflt a with
      | fs => ai_make bud (.inl (a, fs)) fs.length nx L S G
noncomputable def js_new (u0 : Nat) : fr_J := ⟨.new u0, ⟨(gs_new u0, true, fun _ => false), rfl⟩⟩
noncomputable def gs_newarray (u0 : ClassFile.ArrayType) : ai_U := fun bud dflt kind pc nx a b L S G => match S with
    | .inl (0, .ofNat n) :: S => match Nat.blt n 1000000 with
      | true => ai_make bud (.inr (.inl (a, n, 0, 0, []))) n nx L S G
      | false => none
    | _ => none
noncomputable def js_newarray (u0 : ClassFile.ArrayType) : fr_J := ⟨.newarray u0, ⟨(gs_newarray u0, false, fun _ => false), rfl⟩⟩
noncomputable def gs_anewarray (u0 : Nat) : ai_U := fun bud dflt kind pc nx a b L S G => match S with
    | .inl (0, .ofNat n) :: S => match Nat.blt n 1000000 with
      | true => ai_make bud (.inr (.inr (a, List.replicate n none))) n nx L S G
      | false => none
    | _ => none
noncomputable def js_anewarray (u0 : Nat) : fr_J := ⟨.anewarray u0, ⟨(gs_anewarray u0, false, fun _ => false), rfl⟩⟩
noncomputable def gs_multianewarray (u0 : Nat) (u1 : Nat) : ai_U := fun bud dflt kind pc nx a b L S G => ai_mult bud nx L S G
noncomputable def js_multianewarray (u0 : Nat) (u1 : Nat) : fr_J := ⟨.multianewarray u0 u1, ⟨(gs_multianewarray u0 u1, false, fun _ => false), rfl⟩⟩
noncomputable def gs_invokevirtual (u0 : Nat) : ai_U := fun bud dflt kind pc nx a b L S G => match Nat.blt a 1000 with
    | true => ai_vcall a (Nat.mod b 64) (Nat.div b 64) nx S G.2.1
    | false => none
noncomputable def js_invokevirtual (u0 : Nat) : fr_J := ⟨.invokevirtual u0, ⟨(gs_invokevirtual u0, false, fun _ => true), rfl⟩⟩
noncomputable def gs_invokespecial (u0 : Nat) : ai_U := fun bud dflt kind pc nx a b L S G => match Nat.beq a 1004 with
    | true => match S with
      | .inr (.inr (some (some _))) :: S => match Nat.ble (ai_words S) 40 with
        | true => ai_go nx L S G
        | false => none
      | _ => none
    | false => match Nat.blt a 1000 with
      | true => ai_icall a b nx S
      | false => none
noncomputable def js_invokespecial (u0 : Nat) : fr_J := ⟨.invokespecial u0, ⟨(gs_invokespecial u0, false, ai_mild), rfl⟩⟩
noncomputable def gs_invokestatic (u0 : Nat) : ai_U := fun bud dflt kind pc nx a b L S G => match Nat.blt a 1000 with
    | true => ai_call a b nx S
    | false => match ai_room bud S G with
      | true => match Nat.sub a 1000 with
        | 0 => ai_s2 11 nx L S G
        | 1 => ai_s2 12 nx L S G
        | 2 => match S with
          | .inl x :: S => ai_s2 13 nx L (.inl (0, 0) :: .inl x :: S) G
          | _ => none
        | 3 => match S with
          | .inr (.inl x) :: S => ai_l2 26 nx L (.inr (.inl (0, 0)) :: .inr (.inl x) :: S) G
          | _ => none
        | 5 => ai_copyx nx L S G
        | _ => none
      | false => none
set_option maxRecDepth 100000 in
noncomputable def js_invokestatic (u0 : Nat) : fr_J := ⟨.invokestatic u0, ⟨(gs_invokestatic u0, false, ai_mild), rfl⟩⟩
noncomputable def gs_ireturn : ai_U := fun bud dflt kind pc nx a b L S G => match S with
    | [.inl x] => match a with
      | 2 => match ai_bit G.1 x with
        | true => ai_fin bud G (.inr (some (.inl x)))
        | false => none
      | _ => ai_fin bud G (.inr (some (.inl x)))
    | _ => none
noncomputable def js_ireturn : fr_J := ⟨.ireturn, ⟨(gs_ireturn, true, fun _ => false), rfl⟩⟩
noncomputable def gs_lreturn : ai_U := fun bud dflt kind pc nx a b L S G => match S with
    | [.inr (.inl x)] => ai_fin bud G (.inr (some (.inr (.inl x))))
    | _ => none
noncomputable def js_lreturn : fr_J := ⟨.lreturn, ⟨(gs_lreturn, true, fun _ => false), rfl⟩⟩
noncomputable def gs_areturn : ai_U := fun bud dflt kind pc nx a b L S G => match S with
    | [.inr (.inr (some (some r)))] => ai_fin bud G (.inr (some (.inr (.inr (some (some r))))))
    | _ => none
noncomputable def js_areturn : fr_J := ⟨.areturn, ⟨(gs_areturn, true, fun _ => false), rfl⟩⟩
noncomputable def gs_return_ : ai_U := fun bud dflt kind pc nx a b L S G => match S with
    | [] => ai_fin bud G (.inr none)
    | _ => none
noncomputable def js_return_ : fr_J := ⟨.return_, ⟨(gs_return_, true, fun _ => false), rfl⟩⟩
noncomputable def gs_none : ai_U := fun _ _ _ _ _ _ _ _ _ _ => none
noncomputable def js_athrow : fr_J := ⟨.athrow, ⟨(gs_none, false, fun _ => false), rfl⟩⟩
/-- an entry: the instruction with its function, the place behind it, its length, two numbers -/
abbrev fr_Q : Type := fr_J × Nat × Nat × Nat × Nat
abbrev fr_C : Type := Option fr_Q
abbrev fr_K : Type := List ai_P → Bool → Nat → List ai_V → List ai_V → ai_G → ai_Q
noncomputable def fr_un (q : fr_Q) : ClassFile.Instr × Nat × Nat × Nat := (q.1.1, q.2.2)
noncomputable def fr_head (ih : fr_K) (act : List ai_P) (pc : Nat) (L S : List ai_V) (G : ai_G) (A : ai_A) (cut : Option (Nat × Int)) (g : Option (List ai_V × ai_G)) : ai_Q := match g with
  | none => none
  | some (L', G') => match xt_in (ai_base G) L S G L' S G' with
    | none => none
    | some y => match ai_cov y (ai_base G) (Nat.sub G'.1.1 (ai_base G)) with
      | false => none
      | true => match ai_lget L' A.2.2.2.2.1 with
        | .inl (t, 0) => ai_many (fun f => ih ((pc, ai_base G, t, A.2.2.2.2.2, L', S, G') :: act) true f.1 f.2.1 f.2.2.1 f.2.2.2) (ai_slit cut pc L' S G')
        | _ => none
noncomputable def fr_mark (ih : fr_K) (act : List ai_P) (pc : Nat) (L S : List ai_V) (G : ai_G) (q : ai_AA) (b : Bool) : ai_Q := match b with
  | true => some []
  | false => fr_head ih act pc L S G q.1 q.2.1 (ai_gen q.1 L G)
noncomputable def fr_thr (ih : fr_K) (act : List ai_P) (L : List ai_V) (e : Nat) (E : ai_E) (h : ai_H) (c s : Nat) (o : Option (Nat × Nat)) : ai_Q := match o with
  | some (k, pcn) => ih act false pcn (ai_lset L k (.inr (.inr none))) [] (E, h, c, s)
  | none => some [(.inl e, (E, h, c, s))]
noncomputable def fr_on (hand : Nat → Nat → Option (Nat × Nat)) (ih : fr_K) (act : List ai_P) (pc pc' : Nat) (L S : List ai_V) (c s : Nat) (f : ai_R × ai_G) : ai_Q :=
  Prod.rec (motive := fun _ => ai_Q) (fun r g => Prod.rec (motive := fun _ => ai_Q) (fun E g => Prod.rec (motive := fun _ => ai_Q) (fun h _ => Sum.rec (motive := fun _ => ai_Q) (fun e => fr_thr ih act L e E h c s (hand pc e)) (fun o => Option.rec (motive := fun _ => ai_Q) (ih act false pc' L S (E, h, c, s)) (fun v => ih act false pc' L (v :: S) (E, h, c, s)) o) r) g) g) f
noncomputable def fr_each (go : ai_R × ai_G → ai_Q) (fs : List (ai_R × ai_G)) : ai_Q := List.rec (motive := fun _ => ai_Q) (some []) (fun f l _ => List.rec (motive := fun _ => ai_Q) (go f) (fun f2 l2 _ => ai_each go (f :: f2 :: l2)) l) fs
noncomputable def fr_outs (hand : Nat → Nat → Option (Nat × Nat)) (ih : fr_K) (j : fr_J) (act : List ai_P) (pc pc' : Nat) (L S : List ai_V) (c s : Nat) (outs : ai_Q) : ai_Q := Option.rec (motive := fun _ => ai_Q) none (fun outs => Bool.rec (motive := fun _ => ai_Q) none (fr_each (fr_on hand ih act pc pc' L S c s) outs) (j.2.1.2.2 outs)) outs
noncomputable def fr_call (hand : Nat → Nat → Option (Nat × Nat)) (bud : Nat × Nat) (cbud : Nat → Nat × Nat) (callee : Nat → List ai_V → ai_G → ai_Q) (ih : fr_K) (j : fr_J) (act : List ai_P) (pc : Nat) (L : List ai_V) (G : ai_G) (mi : Nat) (args S : List ai_V) (pc' : Nat) : ai_Q := match G with
  | (E, h, c, s) => match cbud mi with
    | (bc, bs) => match Nat.ble (c + bc) bud.1, Nat.ble (s + bs) bud.2 with
      | true, true => fr_outs hand ih j act pc pc' L S (c + bc) (s + bs) (callee mi args (E, h, 0, 0))
      | _, _ => none
noncomputable def fr_go1 (ih : fr_K) (act : List ai_P) (f : ai_F) : ai_Q := Prod.rec (motive := fun _ => ai_Q) (fun pc r => Prod.rec (motive := fun _ => ai_Q) (fun L r => Prod.rec (motive := fun _ => ai_Q) (fun S G => ih act false pc L S G) r) r) f
noncomputable def fr_many (ih : fr_K) (act : List ai_P) (fs : List ai_F) : ai_Q := List.rec (motive := fun _ => ai_Q) (some []) (fun f l _ => List.rec (motive := fun _ => ai_Q) (fr_go1 ih act f) (fun f2 l2 _ => ai_many (fr_go1 ih act) (f :: f2 :: l2)) l) fs
noncomputable def fr_do2 (hand : Nat → Nat → Option (Nat × Nat)) (bud : Nat × Nat) (cbud : Nat → Nat × Nat) (callee : Nat → List ai_V → ai_G → ai_Q) (ih : fr_K) (j : fr_J) (act : List ai_P) (pc : Nat) (L : List ai_V) (G : ai_G) (z : (Nat × List ai_V × List ai_V × Nat) ⊕ ai_R) : ai_Q := match z with
  | .inl (mi, args, S', pc') => fr_call hand bud cbud callee ih j act pc L G mi args S' pc'
  | .inr r => match j.2.1.2.1 with
    | true => some [(r, G)]
    | false => none
noncomputable def fr_do (hand : Nat → Nat → Option (Nat × Nat)) (bud : Nat × Nat) (cbud : Nat → Nat × Nat) (callee : Nat → List ai_V → ai_G → ai_Q) (ih : fr_K) (j : fr_J) (act : List ai_P) (pc : Nat) (L : List ai_V) (G : ai_G) (x : Option ai_S) : ai_Q := Option.rec (motive := fun _ => ai_Q) none (fun y => Sum.rec (motive := fun _ => ai_Q) (fr_many ih act) (fr_do2 hand bud cbud callee ih j act pc L G) y) x
noncomputable def fr_at (hand : Nat → Nat → Option (Nat × Nat)) (bud : Nat × Nat) (cbud : Nat → Nat × Nat) (dflt : Nat → List ai_V) (kind : Nat → Nat → Nat) (callee : Nat → List ai_V → ai_G → ai_Q) (ih : fr_K) (act : List ai_P) (pc : Nat) (L S : List ai_V) (G : ai_G) (q : fr_C) : ai_Q := Option.rec (motive := fun _ => ai_Q) none (fun q => Prod.rec (motive := fun _ => ai_Q) (fun j r => Prod.rec (motive := fun _ => ai_Q) (fun nx r => Prod.rec (motive := fun _ => ai_Q) (fun _ r => Prod.rec (motive := fun _ => ai_Q) (fun a b => fr_do hand bud cbud callee ih j act pc L G (j.2.1.1 bud dflt kind pc nx a b L S G)) r) r) r) q) q
noncomputable def fr_pick (code : Nat → fr_C) (hand : Nat → Nat → Option (Nat × Nat)) (bud : Nat × Nat) (cbud : Nat → Nat × Nat) (dflt : Nat → List ai_V) (kind : Nat → Nat → Nat) (callee : Nat → List ai_V → ai_G → ai_Q) (ih : fr_K) (act : List ai_P) (pc : Nat) (L S : List ai_V) (G : ai_G) (o : Option ai_AA) : ai_Q := match o with
  | some q => fr_mark ih act pc L S G q (xt_again act pc L S G)
  | none => fr_at hand bud cbud dflt kind callee ih act pc L S G (code pc)
noncomputable def fr_body (code : Nat → fr_C) (hand : Nat → Nat → Option (Nat × Nat)) (bud : Nat × Nat) (cbud : Nat → Nat × Nat) (dflt : Nat → List ai_V) (kind : Nat → Nat → Nat) (callee : Nat → List ai_V → ai_G → ai_Q) (ann : Nat → Option ai_AA) (ih : fr_K) : fr_K := fun act skip pc L S G => Option.rec (motive := fun _ => ai_Q) (fr_at hand bud cbud dflt kind callee ih act pc L S G (code pc)) (fun q => fr_pick code hand bud cbud dflt kind callee ih act pc L S G (ai_pick (some q) skip act pc L)) (ann pc)
noncomputable def fr_run (code : Nat → fr_C) (hand : Nat → Nat → Option (Nat × Nat)) (bud : Nat × Nat) (cbud : Nat → Nat × Nat) (dflt : Nat → List ai_V) (kind : Nat → Nat → Nat) (callee : Nat → List ai_V → ai_G → ai_Q) (ann : Nat → Option ai_AA) (n : Nat) : fr_K := Nat.rec (motive := fun _ => fr_K) (fun _ _ _ _ _ _ => none) (fun _ ih => fr_body code hand bud cbud dflt kind callee ann ih) n
theorem fr_each_eq {go : ai_R × ai_G → ai_Q} {fs : List (ai_R × ai_G)} : fr_each go fs = ai_each go fs := by
  cases fs with
  | nil => rfl
  | cons f l => cases l with
    | nil => rfl
    | cons f2 l2 => rfl
theorem fr_many_eq {ih : fr_K} {act : List ai_P} {fs : List ai_F} : fr_many ih act fs = ai_many (fun f => ih act false f.1 f.2.1 f.2.2.1 f.2.2.2) fs := by
  cases fs with
  | nil => rfl
  | cons f l => cases l with
    | nil => rfl
    | cons f2 l2 => rfl
/-- the place behind an instruction -/
noncomputable def fr_nx (code : Nat → fr_C) : Prop := ∀ pc q, code pc = some q → q.2.1 = pc + q.2.2.1
theorem fr_run_eq {code : Nat → fr_C} {hand : Nat → Nat → Option (Nat × Nat)} {bud : Nat × Nat} {cbud : Nat → Nat × Nat} {dflt : Nat → List ai_V} {kind : Nat → Nat → Nat} {callee : Nat → List ai_V → ai_G → ai_Q} {ann : Nat → Option ai_AA} (hnx : fr_nx code) : ∀ (n : Nat) (act : List ai_P) (skip : Bool) (pc : Nat) (L S : List ai_V) (G : ai_G),
    fr_run code hand bud cbud dflt kind callee ann n act skip pc L S G = ai_run (fun q => (code q).map fr_un) hand bud cbud dflt kind callee ann n act skip pc L S G := by
  intro n
  induction n with
  | zero => intros; rfl
  | succ n ih =>
    intro act skip pc L S G
    have e0 : fr_run code hand bud cbud dflt kind callee ann n = ai_run (fun q => (code q).map fr_un) hand bud cbud dflt kind callee ann n := by
      funext a b c d e f
      exact ih a b c d e f
    have e1 : fr_run code hand bud cbud dflt kind callee ann (n + 1) act skip pc L S G = fr_pick code hand bud cbud dflt kind callee (fr_run code hand bud cbud dflt kind callee ann n) act pc L S G (ai_pick (ann pc) skip act pc L) := by
      show Option.rec (motive := fun _ => ai_Q) _ _ (ann pc) = _
      cases ann pc with
      | none => rfl
      | some q => rfl
    rw [e1, e0]
    unfold ai_run fr_pick
    cases ai_pick (ann pc) skip act pc L with
    | some q =>
      obtain ⟨A, cut, gd⟩ := q
      dsimp only
      unfold fr_mark
      rw [xt_again_eq]
      cases ai_again act pc L S G with
      | true => rfl
      | false =>
        unfold fr_head
        simp only [xt_in_eq]
        rfl
    | none =>
      dsimp only
      unfold fr_at
      cases ec : code pc with
      | none => rfl
      | some q =>
        have hq0 := hnx pc q ec
        obtain ⟨⟨i, ⟨⟨st, en, ca⟩, hq⟩⟩, nx, len, a, b⟩ := q
        cases hq
        have hq0 : nx = pc + len := hq0
        subst hq0
        dsimp only [Option.map, fr_un]
        unfold fr_do
        cases ai_step i bud dflt kind pc (pc + len) a b L S G with
        | none => rfl
        | some y =>
          cases y with
          | inl fs => exact fr_many_eq
          | inr z =>
            cases z with
            | inl w =>
              obtain ⟨mi, aa, S', pc'⟩ := w
              obtain ⟨E, h, c, s⟩ := G
              dsimp only
              unfold fr_do2
              dsimp only
              unfold fr_call
              dsimp only
              cases cbud mi with
              | mk bc bs =>
              dsimp only
              cases Nat.ble (c + bc) bud.1 with
              | false => rfl
              | true => cases Nat.ble (s + bs) bud.2 with
                | false => rfl
                | true =>
                  dsimp only
                  unfold fr_outs
                  cases callee mi aa (E, h, 0, 0) with
                  | none => rfl
                  | some os =>
                    dsimp only
                    cases ai_calm i os with
                    | false => rfl
                    | true =>
                      refine fr_each_eq.trans ?_
                      refine congrArg (fun g => ai_each g os) ?_
                      funext f
                      obtain ⟨r, E1, h1, c1, s1⟩ := f
                      cases r with
                      | inl e => rfl
                      | inr o => cases o with
                        | none => rfl
                        | some v => rfl
            | inr r => rfl
/-- a method: its number of locals, code, handlers, room, marked places -/
abbrev fr_M : Type := Nat × (Nat → fr_C) × (Nat → Nat → Option (Nat × Nat)) × (Nat × Nat) × (Nat → Option ai_AA)
noncomputable def fr_unM (q : fr_M) : ai_M := (q.1, (fun pc => (q.2.1 pc).map fr_un), q.2.2)
noncomputable def fr_enter (cbud : Nat → Nat × Nat) (dflt : Nat → List ai_V) (kind : Nat → Nat → Nat) (fuel : Nat) (callee : Nat → List ai_V → ai_G → ai_Q) (args : List ai_V) (G : ai_G) (q : Option fr_M) : ai_Q := match q with
  | none => none
  | some (nl, code, hand, bud, ann) => match ai_pad nl args with
    | none => none
    | some L => fr_run code hand bud cbud dflt kind callee ann fuel [] false 0 L [] G
noncomputable def fr_meth (prog : Nat → Option fr_M) (cbud : Nat → Nat × Nat) (dflt : Nat → List ai_V) (kind : Nat → Nat → Nat) (fuel : Nat) (d : Nat) : Nat → List ai_V → ai_G → ai_Q := Nat.rec (motive := fun _ => Nat → List ai_V → ai_G → ai_Q) (fun _ _ _ => none) (fun _ ih mi args G => fr_enter cbud dflt kind fuel ih args G (prog mi)) d
theorem fr_meth_eq {prog : Nat → Option fr_M} {cbud : Nat → Nat × Nat} {dflt : Nat → List ai_V} {kind : Nat → Nat → Nat} {fuel : Nat} (hnx : ∀ mi q, prog mi = some q → fr_nx q.2.1) : ∀ (d mi : Nat) (args : List ai_V) (G : ai_G), fr_meth prog cbud dflt kind fuel d mi args G = ai_meth (fun m => (prog m).map fr_unM) cbud dflt kind fuel d mi args G := by
  intro d
  induction d with
  | zero => intros; rfl
  | succ d ih =>
    intro mi args G
    have e0 : fr_meth prog cbud dflt kind fuel d = ai_meth (fun m => (prog m).map fr_unM) cbud dflt kind fuel d := by
      funext a b c
      exact ih a b c
    show fr_enter cbud dflt kind fuel (fr_meth prog cbud dflt kind fuel d) args G (prog mi) = _
    rw [e0]
    unfold ai_meth fr_enter
    cases eq : prog mi with
    | none => rfl
    | some q =>
      have hq := hnx mi q eq
      obtain ⟨nl, code, hand, bud, ann⟩ := q
      dsimp only [Option.map, fr_unM]
      cases ai_pad nl args with
      | none => rfl
      | some L => exact fr_run_eq hq _ _ _ _ _ _ _

/-! code tables -/
abbrev fr_I : Type := Nat × fr_Q
noncomputable def fr_nd (d : Nat) (a b : ai_T (List fr_I) d) : ai_T (List fr_I) (d + 1) := (a, b)
noncomputable def fr_seek (pc : Nat) (l : List fr_I) : fr_C := List.rec (motive := fun _ => fr_C) none (fun q _ ih => Bool.rec (motive := fun _ => fr_C) ih (some q.2) (Nat.beq q.1 pc)) l
theorem fr_seek_c {pc q : Nat} {i : fr_Q} {l : List fr_I} : fr_seek pc ((q, i) :: l) = (match Nat.beq q pc with
    | true => some i
    | false => fr_seek pc l) := by
  show Bool.rec (motive := fun _ => fr_C) (fr_seek pc l) (some i) (Nat.beq q pc) = _
  cases Nat.beq q pc <;> rfl
noncomputable def fr_code (d : Nat) (t : ai_T (List fr_I) d) (pc : Nat) : fr_C := fr_seek pc (ai_tget d t (Nat.div pc 16))
/-- a method of the program: code, handlers, room, what the tables say of it -/
abbrev ct_L : Type := Option ((Nat → fr_C) × (Nat → Nat → Option (Nat × Nat)) × (Nat × Nat) × ai_MT)
noncomputable def ct_cov (pc : Nat) : List (Nat × Nat × Nat × Nat × Nat) → Bool
  | [] => false
  | (a, b, _) :: l => match Nat.ble a pc, Nat.blt pc b with
    | true, true => true
    | _, _ => ct_cov pc l
/-- an exception that no row catches where one covers is not followed: there is no code at 99999 -/
noncomputable def ct_hand (l : List (Nat × Nat × Nat × Nat × Nat)) (pc e : Nat) : Option (Nat × Nat) := match ai_hand l pc e with
  | some r => some r
  | none => match ct_cov pc l with
    | true => some (0, 99999)
    | false => none
