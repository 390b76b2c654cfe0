/-! the classes of the world: 0 ReadPass, 1 Road, 2 Tape, 3 Journey, 4 Seen, 5 Sheet, 6 ReadPassModel -/
def am_T0 : u_T := fun k => match k with
  | 0 => ("ReadPass", "road", "LReadPass$Road;", true)
  | 1 => ("ReadPass", "kept", "LReadPass$Road;", true)
  | 2 => ("ReadPass", "draft", "LReadPass$Road;", true)
  | 3 => ("ReadPass", "tape", "LReadPass$Tape;", true)
  | 4 => ("ReadPass", "journey", "LReadPass$Journey;", true)
  | 5 => ("ReadPass", "sheets", "[LReadPass$Sheet;", true)
  | 6 => ("ReadPass", "trail", "[I", true)
  | _ => ("ReadPass", "hasImage", "Z", false)
def am_T1 : u_T := fun k => match k with
  | 0 => ("ReadPass$Road", "lesser", "[I", true)
  | 1 => ("ReadPass$Road", "greater", "[I", true)
  | 2 => ("ReadPass$Road", "joints", "[I", true)
  | 3 => ("ReadPass$Road", "sides", "[I", true)
  | 4 => ("ReadPass$Road", "abouts", "[I", true)
  | 5 => ("ReadPass$Road", "ways", "I", false)
  | 6 => ("ReadPass$Road", "doubtful", "I", false)
  | 7 => ("ReadPass$Road", "covered", "I", false)
  | 8 => ("ReadPass$Road", "stones", "I", false)
  | 9 => ("ReadPass$Road", "goal", "I", false)
  | 10 => ("ReadPass$Road", "net", "J", false)
  | _ => ("ReadPass$Road", "clearNet", "J", false)
def am_T2 : u_T := fun k => match k with
  | 0 => ("ReadPass$Tape", "bytes", "[B", true)
  | 1 => ("ReadPass$Tape", "length", "I", false)
  | _ => ("ReadPass$Tape", "spot", "I", false)
def am_T3 : u_T := fun k => match k with
  | 0 => ("ReadPass$Journey", "seen", "LReadPass$Seen;", true)
  | 1 => ("ReadPass$Journey", "kind", "I", false)
  | 2 => ("ReadPass$Journey", "snow", "I", false)
  | 3 => ("ReadPass$Journey", "stones", "I", false)
  | 4 => ("ReadPass$Journey", "place", "I", false)
  | 5 => ("ReadPass$Journey", "target", "I", false)
  | 6 => ("ReadPass$Journey", "steps", "I", false)
  | 7 => ("ReadPass$Journey", "ending", "I", false)
  | 8 => ("ReadPass$Journey", "believedShut", "I", false)
  | _ => ("ReadPass$Journey", "believedNet", "J", false)
def am_T4 : u_T := fun k => match k with
  | 0 => ("ReadPass$Seen", "words", "[J", true)
  | 1 => ("ReadPass$Seen", "used", "[I", true)
  | _ => ("ReadPass$Seen", "count", "I", false)
def am_T5 : u_T := fun k => match k with
  | 0 => ("ReadPass$Sheet", "items", "[J", true)
  | 1 => ("ReadPass$Sheet", "lane", "I", false)
  | _ => ("ReadPass$Sheet", "length", "I", false)
abbrev am_cl : List vw_C := [("ReadPass", am_T0, 8), ("ReadPass$Road", am_T1, 12), ("ReadPass$Tape", am_T2, 3), ("ReadPass$Journey", am_T3, 10), ("ReadPass$Seen", am_T4, 3), ("ReadPass$Sheet", am_T5, 3)]
def am_fchk (own : String) (idx ci k pos : Nat) (put : Bool) : Bool := match am_cl[ci]? with
  | none => false
  | some (C, T, N) => decide (k < N) && (decide ((T k).1 = C) && ((decide (lw_tbl[pos]? = some (.fieldLink own idx C (T k).2.1 (T k).2.2.1)) || decide (lw_tbl[pos]? = some (.fieldLinkNest own idx C (T k).2.1 (T k).2.2.1 "ReadPass"))) && (!put || decide ((T k).2.2.2 = false))))
def am_len (y : Nat) : Instr → Nat
  | .bipush _ | .iload _ | .lload _ | .aload _ | .istore _ | .lstore _ | .astore _ | .ldc _ | .newarray _ => 2
  | .sipush _ | .ldc_w _ | .ldc2_w _ | .iinc _ _ | .ifCond _ _ | .if_icmp _ _ | .goto _ | .getfield _ | .putfield _ | .invokevirtual _ | .invokestatic _ | .invokespecial _ | .new _ | .anewarray _ => 3
  | .tableswitch _ _ _ _ | .lookupswitch _ _ => y
  | _ => 1
def am_hd (ws : List Nat) : Nat := match ws with
  | [] => 0
  | a :: _ => a
/-- an entry of a code table says what the bytes say; keys: the calls (entry of the pool, how many values, how it is called) -/
def am_chk (own : String) (cc : ByteArray) (keys : List (Nat × Nat × Nat)) (q : am_E) : Bool := match q with
  | (pc, i, nx, x, y, z, zl, ws) => decide (decode cc pc = .ok (i, am_len y i)) && (decide (nx = pc + am_len y i) && (match i with
    | .iconst n => decide (Int32.ofInt n = z)
    | .bipush n => decide ((Int8.ofInt n).toInt32 = z)
    | .sipush n => decide ((Int16.ofInt n).toInt32 = z)
    | .lconst n => decide (Int64.ofNat n.val = zl)
    | .iinc _ n => decide (Int32.ofInt n = z)
    | .ldc idx => decide (lw_tbl[x]? = some (.constant own idx z))
    | .ldc_w idx => decide (lw_tbl[x]? = some (.constant own idx z))
    | .ldc2_w idx => decide (lw_tbl[x]? = some (.constantLong own idx zl))
    | .ifCond _ off => decide ((pc : Int) + off = (x : Int))
    | .if_icmp _ off => decide ((pc : Int) + off = (x : Int))
    | .goto off => decide ((pc : Int) + off = (x : Int))
    | .getfield idx => am_fchk own idx x y (am_hd ws) false
    | .putfield idx => am_fchk own idx x y (am_hd ws) true
    | .invokevirtual idx => decide (x = idx) && decide ((idx, y, 10 + am_hd ws) ∈ keys)
    | .invokestatic idx => decide (x = idx) && decide ((idx, y, 0) ∈ keys)
    | .tableswitch d lo hi offs => decide (lo = 0) && (decide (hi + 1 = (ws.length : Int)) && (decide ((pc : Int) + d = (x : Int)) && (decide (ws.length < 100) && decide (offs.toList.map (fun o => (pc : Int) + o) = ws.map Int.ofNat))))
    | .lookupswitch d ps => decide (ps.toList.map (fun q => q.1) = (List.range ws.length).map Int.ofNat) && (decide ((pc : Int) + d = (x : Int)) && (decide (ws.length < 100) && decide (ps.toList.map (fun q => (pc : Int) + q.2) = ws.map Int.ofNat)))
    | _ => true))
/-- one instruction -/
def am_st (S : List am_C) (sp : Nat → am_Sp) (rb : Bool) (post : am_Po) (K : am_G) (q : am_E) (ls : am_Lv) (st : List Value) (I : am_I) (L : am_J) : Prop := match q with
  | (_, i, nx, x, y, z, zl, ws) => match i with
    | .iconst _ => K nx ls (.int z :: st) I L
    | .bipush _ => K nx ls (.int z :: st) I L
    | .sipush _ => K nx ls (.int z :: st) I L
    | .ldc _ => K nx ls (.int z :: st) I L
    | .ldc_w _ => K nx ls (.int z :: st) I L
    | .lconst _ => K nx ls (.long zl :: st) I L
    | .ldc2_w _ => K nx ls (.long zl :: st) I L
    | .iload k => am_gl ls k (fun v => match v with | .int a => K nx ls (.int a :: st) I L | _ => False)
    | .iload_n k => am_gl ls k.val (fun v => match v with | .int a => K nx ls (.int a :: st) I L | _ => False)
    | .lload k => am_gl ls k (fun v => match v with | .long a => K nx ls (.long a :: st) I L | _ => False)
    | .lload_n k => am_gl ls k.val (fun v => match v with | .long a => K nx ls (.long a :: st) I L | _ => False)
    | .aload k => am_gl ls k (fun v => match v with | .ref a => K nx ls (.ref a :: st) I L | _ => False)
    | .aload_n k => am_gl ls k.val (fun v => match v with | .ref a => K nx ls (.ref a :: st) I L | _ => False)
    | .istore k => (match st with | .int a :: r => am_s1 k (.int a) ls (fun l2 => K nx l2 r I L) | _ => False)
    | .istore_n k => (match st with | .int a :: r => am_s1 k.val (.int a) ls (fun l2 => K nx l2 r I L) | _ => False)
    | .lstore k => (match st with | .long a :: r => am_s2 k (.long a) ls (fun l2 => K nx l2 r I L) | _ => False)
    | .lstore_n k => (match st with | .long a :: r => am_s2 k.val (.long a) ls (fun l2 => K nx l2 r I L) | _ => False)
    | .astore k => (match st with | .ref a :: r => am_s1 k (.ref a) ls (fun l2 => K nx l2 r I L) | _ => False)
    | .astore_n k => (match st with | .ref a :: r => am_s1 k.val (.ref a) ls (fun l2 => K nx l2 r I L) | _ => False)
    | .iinc k _ => am_gl ls k (fun v => match v with | .int a => am_s1 k (.int (a + z)) ls (fun l2 => K nx l2 st I L) | _ => False)
    | .iadd => (match st with | .int b :: .int a :: r => K nx ls (.int (a + b) :: r) I L | _ => False)
    | .isub => (match st with | .int b :: .int a :: r => K nx ls (.int (a - b) :: r) I L | _ => False)
    | .imul => (match st with | .int b :: .int a :: r => K nx ls (.int (a * b) :: r) I L | _ => False)
    | .iand => (match st with | .int b :: .int a :: r => K nx ls (.int (a &&& b) :: r) I L | _ => False)
    | .ior => (match st with | .int b :: .int a :: r => K nx ls (.int (a ||| b) :: r) I L | _ => False)
    | .ixor => (match st with | .int b :: .int a :: r => K nx ls (.int (a ^^^ b) :: r) I L | _ => False)
    | .idiv => (match st with | .int b :: .int a :: r => (¬ b = 0) ∧ K nx ls (.int (a / b) :: r) I L | _ => False)
    | .irem => (match st with | .int b :: .int a :: r => (¬ b = 0) ∧ K nx ls (.int (a - a / b * b) :: r) I L | _ => False)
    | .ishl => (match st with | .int b :: .int a :: r => K nx ls (.int (a <<< (b &&& 31)) :: r) I L | _ => False)
    | .ishr => (match st with | .int b :: .int a :: r => K nx ls (.int (a >>> (b &&& 31)) :: r) I L | _ => False)
    | .iushr => (match st with | .int b :: .int a :: r => K nx ls (.int (a.toUInt32 >>> (b.toUInt32 &&& Int32.toUInt32 31)).toInt32 :: r) I L | _ => False)
    | .ladd => (match st with | .long b :: .long a :: r => K nx ls (.long (a + b) :: r) I L | _ => False)
    | .land => (match st with | .long b :: .long a :: r => K nx ls (.long (a &&& b) :: r) I L | _ => False)
    | .lor => (match st with | .long b :: .long a :: r => K nx ls (.long (a ||| b) :: r) I L | _ => False)
    | .lxor => (match st with | .long b :: .long a :: r => K nx ls (.long (a ^^^ b) :: r) I L | _ => False)
    | .lshl => (match st with | .int b :: .long a :: r => K nx ls (.long (a <<< (b.toInt64 &&& 63)) :: r) I L | _ => False)
    | .lshr => (match st with | .int b :: .long a :: r => K nx ls (.long (a >>> (b.toInt64 &&& 63)) :: r) I L | _ => False)
    | .lushr => (match st with | .int b :: .long a :: r => K nx ls (.long (a.toUInt64 >>> (b.toInt64.toUInt64 &&& Int64.toUInt64 63)).toInt64 :: r) I L | _ => False)
    | .lcmp => (match st with | .long b :: .long a :: r => K nx ls (.int (lg_cmp a b) :: r) I L | _ => False)
    | .i2l => (match st with | .int a :: r => K nx ls (.long a.toInt64 :: r) I L | _ => False)
    | .l2i => (match st with | .long a :: r => K nx ls (.int a.toInt32 :: r) I L | _ => False)
    | .i2b => (match st with | .int a :: r => K nx ls (.int a.toInt8.toInt32 :: r) I L | _ => False)
    | .i2s => (match st with | .int a :: r => K nx ls (.int a.toInt16.toInt32 :: r) I L | _ => False)
    | .dup => (match st with | v :: r => (match Nat.beq v.category 1 with | true => K nx ls (v :: v :: r) I L | false => False) | _ => False)
    | .dup2 => (match st with | v :: w :: r => (match Nat.beq v.category 1 with | true => (match Nat.beq w.category 1 with | true => K nx ls (v :: w :: v :: w :: r) I L | false => False) | false => False) | _ => False)
    | .goto _ => K x ls st I L
    | .ifCond cd _ => (match st with
      | .int a :: r => (match cd with
        | .eq => (a = 0 → K x ls r I L) ∧ (¬ a = 0 → K nx ls r I L)
        | .ne => (¬ a = 0 → K x ls r I L) ∧ (a = 0 → K nx ls r I L)
        | .lt => (a < 0 → K x ls r I L) ∧ (¬ a < 0 → K nx ls r I L)
        | .ge => (¬ a < 0 → K x ls r I L) ∧ (a < 0 → K nx ls r I L)
        | .gt => (0 < a → K x ls r I L) ∧ (¬ 0 < a → K nx ls r I L)
        | .le => (¬ 0 < a → K x ls r I L) ∧ (0 < a → K nx ls r I L))
      | _ => False)
    | .if_icmp cd _ => (match st with
      | .int b :: .int a :: r => (match cd with
        | .eq => (a = b → K x ls r I L) ∧ (¬ a = b → K nx ls r I L)
        | .ne => (¬ a = b → K x ls r I L) ∧ (a = b → K nx ls r I L)
        | .lt => (a < b → K x ls r I L) ∧ (¬ a < b → K nx ls r I L)
        | .ge => (¬ a < b → K x ls r I L) ∧ (a < b → K nx ls r I L)
        | .gt => (b < a → K x ls r I L) ∧ (¬ b < a → K nx ls r I L)
        | .le => (¬ b < a → K x ls r I L) ∧ (b < a → K nx ls r I L))
      | _ => False)
    | .tableswitch _ _ _ _ => (match st with | .int a :: r => am_ts ws 0 a (fun t => K t ls r I L) x | _ => False)
    | .lookupswitch _ _ => (match st with | .int a :: r => am_ts ws 0 a (fun t => K t ls r I L) x | _ => False)
    | .getfield _ => (match st with
      | .ref o :: r => am_sh S o (fun c => match c with
        | .inl (ci, fs) => (match Nat.beq ci x with
          | true => am_fc fs y (fun code => match code with
            | 0 => K nx ls (.int (I o y) :: r) I L
            | 1 => K nx ls (.long (L o y) :: r) I L
            | 2 => K nx ls (.int (I o y) :: r) I L
            | n + 3 => K nx ls (.ref n :: r) I L)
          | false => False)
        | _ => False)
      | _ => False)
    | .putfield _ => (match st with
      | .int a :: .ref o :: r => am_sh S o (fun c => match c with
        | .inl (ci, fs) => (match Nat.beq ci x with
          | true => am_fc fs y (fun code => match code with
            | 0 => K nx ls r (am_ui I o y a) L
            | 2 => (a = 0 ∨ a = 1) ∧ K nx ls r (am_ui I o y a) L
            | _ => False)
          | false => False)
        | _ => False)
      | .long a :: .ref o :: r => am_sh S o (fun c => match c with
        | .inl (ci, fs) => (match Nat.beq ci x with
          | true => am_fc fs y (fun code => match code with
            | 1 => K nx ls r I (am_uj L o y a)
            | _ => False)
          | false => False)
        | _ => False)
      | _ => False)
    | .iaload => (match st with
      | .int j :: .ref o :: r => am_sh S o (fun c => match c with
        | .inr (0, n, _) => vp_in j n ∧ K nx ls (.int (I o j.toNatClampNeg) :: r) I L
        | _ => False)
      | _ => False)
    | .baload => (match st with
      | .int j :: .ref o :: r => am_sh S o (fun c => match c with
        | .inr (2, n, _) => vp_in j n ∧ K nx ls (.int (I o j.toNatClampNeg) :: r) I L
        | _ => False)
      | _ => False)
    | .laload => (match st with
      | .int j :: .ref o :: r => am_sh S o (fun c => match c with
        | .inr (1, n, _) => vp_in j n ∧ K nx ls (.long (L o j.toNatClampNeg) :: r) I L
        | _ => False)
      | _ => False)
    | .aaload => (match st with
      | .int j :: .ref o :: r => am_sh S o (fun c => match c with
        | .inr (3, n, rs) => vp_in j n ∧ (n = rs.length ∧ (n < 100 ∧ am_al rs 0 j (fun a => K nx ls (.ref a :: r) I L)))
        | _ => False)
      | _ => False)
    | .iastore => (match st with
      | .int a :: .int j :: .ref o :: r => am_sh S o (fun c => match c with
        | .inr (0, n, _) => vp_in j n ∧ K nx ls r (am_ui I o j.toNatClampNeg a) L
        | _ => False)
      | _ => False)
    | .bastore => (match st with
      | .int a :: .int j :: .ref o :: r => am_sh S o (fun c => match c with
        | .inr (2, n, _) => vp_in j n ∧ K nx ls r (am_ui I o j.toNatClampNeg (vp_nar .byte a)) L
        | _ => False)
      | _ => False)
    | .lastore => (match st with
      | .long a :: .int j :: .ref o :: r => am_sh S o (fun c => match c with
        | .inr (1, n, _) => vp_in j n ∧ K nx ls r I (am_uj L o j.toNatClampNeg a)
        | _ => False)
      | _ => False)
    | .arraylength => (match st with
      | .ref o :: r => am_sh S o (fun c => match c with
        | .inr (t, n, _) => (match Nat.ble t 2 with
          | true => K nx ls (.int (Int32.ofNat n) :: r) I L
          | false => False)
        | _ => False)
      | _ => False)
    | .invokestatic _ => am_tk y st [] (fun vs r => match Nat.ble (am_cat r) 8 with
      | true => sp x vs I L (fun v I' L' => match v with
        | none => K nx ls r I' L'
        | some a => K nx ls (a :: r) I' L')
      | false => False)
    | .invokevirtual _ => am_tk y st [] (fun vs r => match Nat.ble (am_cat r) 8 with
      | true => (match vs with
        | .ref o :: _ => am_sh S o (fun c => match c with
          | .inl (ci, _) => (match Nat.beq ci (am_hd ws) with
            | true => sp x vs I L (fun v I' L' => match v with
              | none => K nx ls r I' L'
              | some a => K nx ls (a :: r) I' L')
            | false => False)
          | _ => False)
        | _ => False)
      | false => False)
    | .ireturn => (match st with
      | [.int a] => (match rb with
        | true => (a = 0 ∨ a = 1) ∧ post (some (.int a)) I L
        | false => post (some (.int a)) I L)
      | _ => False)
    | .lreturn => (match st with
      | [.long a] => post (some (.long a)) I L
      | _ => False)
    | .return_ => (match st with
      | [] => post none I L
      | _ => False)
    | _ => False
def am_ev (S : List am_C) (sp : Nat → am_Sp) (rb : Bool) (post : am_Po) (code : List am_E) (cuts : List (Nat × List Nat)) (G : am_G) : Nat → am_G
  | 0 => fun pc ls st I L => G pc ls st I L
  | n + 1 => fun pc ls st I L => am_fd code pc (fun q => am_st S sp rb post (fun pc' ls' st' I' L' => am_ct cuts pc' (fun m => am_keep m ls' (fun l2 => G pc' l2 st' I' L')) (am_ev S sp rb post code cuts G n pc' ls' st' I' L')) q ls st I L)
/-- a method answers as its words say: G holds wherever the small machine can go on to it -/
def am_Ok (S : List am_C) (sp : Nat → am_Sp) (rb : Bool) (code : List am_E) (maxL : Nat) (T : am_Sp) : Prop := ∀ (vs : List Value) (I : am_I) (L : am_J) (post : am_Po), T vs I L post → (am_en vs).length ≤ maxL ∧ ∀ G : am_G, (∀ (cuts : List (Nat × List Nat)) (n pc : Nat) (ls : am_Lv) (st : List Value) (I : am_I) (L : am_J), am_ev S sp rb post code cuts G n pc ls st I L → G pc ls st I L) → G 0 (am_ent vs maxL) [] I L
