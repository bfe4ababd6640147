-- the environment: the launch, the classes' numbers and slots, the arrays' classes, where the fixed cells lie (from 1000 on: Strings; 1100: their bytes; 1200: Team.UNDER)
abbrev gEnv : Type := Launch × va_G × (Nat → ClassId) × (Nat → Nat)
def gtc (tc : Nat) : FieldType := match tc with
  | 0 => .int
  | 1 => .byte
  | 2 => .long
  | 3 => .boolean
  | 4 => .object RX4
  | _ => .object RX7
def gty (cy : Nat → ClassId) : List (ClassId × FieldType) := (List.range 6).map (fun t => (cy t, gtc t))
def gUNDER (j : Nat) : Int32 := match j with
  | 0 => -1
  | 3 => 2
  | 5 => 1
  | _ => 0
/-- what the methods need of the start beside the tables' words: nest mates' links, Strings and statics, which lie outside A -/
def gX (E : gEnv) (A : Nat → Prop) (U : State) : Prop :=
  (∀ w ∈ gNest, va_Nw w U) ∧ (va_AO RX4 U ∧ va_AO RX7 U) ∧
  (vk_S 13 gStrL gStrB (fun i => E.2.2.2 (1000 + i)) (fun i => E.2.2.2 (1100 + i)) A U U.heap ∧ ∀ (i : Nat) (q : String × Nat × String × Nat), gStr[i]? = some q → vk_R q.1 q.2.1 q.2.2.1 (E.2.2.2 (1000 + i)) U) ∧
  (va_Z "java/lang/String" "COMPACT_STRINGS" "Z" (.int 1) A U U.heap ∧ (va_Z "jdk/internal/util/Preconditions" "SIOOBE_FORMATTER" "Ljava/util/function/BiFunction;" .null A U U.heap ∨ va_Z "jdk/internal/util/Preconditions" "SIOOBE_FORMATTER" "Ljava/util/function/BiFunction;" (.ref (E.2.2.2 1300)) A U U.heap)) ∧
  va_Z RX6 "UNDER" "[I" (.ref (E.2.2.2 1200)) A U U.heap ∧ va_T .int (E.2.2.2 1200) 6 (fun j => .int (gUNDER j)) A U U.heap
def gA (ad0 : Nat → Nat) (n0 sz : Nat) : Nat → Prop := fun q => (∃ k, k < n0 ∧ q = ad0 k) ∨ sz ≤ q
/-- the fixed cells' shapes: Strings (kind 20), their bytes (11), Team.UNDER (10) -/
def gFx (k : Nat) : gSh := cond (Nat.blt k 1013) (.inl 20) (cond (Nat.blt k 1100) (.inr (9, 0)) (cond (Nat.blt k 1113) (.inr (11, gStrL.getD (k - 1100) 0)) (cond (Nat.beq k 1200) (.inr (10, 6)) (.inr (9, 0)))))
def glive (x : gSh) : Bool := match x with
  | .inl ci => Nat.blt ci 11
  | .inr q => Nat.blt q.1 6
def gok (u : gS) : Prop := (u.1 ≤ 900 ∧ (∀ k, u.1 ≤ k → k < 1000 → u.2.1 k = .inr (9, 0)) ∧ ∀ k, 1000 ≤ k → u.2.1 k = gFx k) ∧ (∀ k j r, u.2.2.2.2 k j = some r → r < u.1 ∨ 1000 ≤ r) ∧ ∀ k, k < u.1 → glive (u.2.1 k) = true
def gRm (d mc ms : Nat) : Room := { frames := d, cells := mc, slots := ms, locals := 40 * d }
def gws (q : gM) : List Cond := Cond.code q.1 q.2.1 q.2.2.1 q.2.2.2.1 :: gT
def gPc (E : gEnv) (ad0 : Nat → Nat) (sz : Nat) (av : List Value) (u : gS) : Array Value → State → Prop := fun a U => a = (av.map (gcv ad0)).toArray ∧ U.heap.size = sz ∧ va_P E.2.1 vwCl (gW E.2.2.1 ad0 u) U.heap ∧ va_D (fun _ => True) (gW E.2.2.1 ad0 u) ∧ gok u ∧ va_K E.2.1 vwCl (gty E.2.2.1) U ∧ gX E (gA ad0 u.1 sz) U
def gQc (E : gEnv) (ad0 : Nat → Nat) (n0 sz mc : Nat) (post : Option Value → gS → Prop) : Array Value → State → Outcome → State → Prop := fun _ s o t =>
  (∃ (v : Option Value) (u : gS) (ad : Nat → Nat), o = .returned (v.map (gcv ad)) ∧ ((∀ k, k < n0 ∨ 1000 ≤ k → ad k = ad0 k) ∧ (mc = 0 → ad = ad0)) ∧ n0 ≤ u.1 ∧ post v u ∧ va_P E.2.1 vwCl (gW E.2.2.1 ad u) t.heap ∧ va_D (gA ad0 n0 sz) (gW E.2.2.1 ad u) ∧ gok u) ∧ va_F (gA ad0 n0 sz) s t
/-- THE CONTRACT of method y at depth d: called with av in the world u it returns, and 'post answer world'; it makes at most mc cells of ms slots -/
def gCtr (E : gEnv) (d mc ms y : Nat) (av : List Value) (u : gS) (post : Option Value → gS → Prop) : Prop :=
  ∀ q : gM, gMt[y]? = some q → ∀ (ad0 : Nat → Nat) (sz : Nat), (∀ k, 1000 ≤ k → ad0 k = E.2.2.2 k) → Met E.1 q.1 (gws q) (gRm d mc ms) (gPc E ad0 sz av u) (gQc E ad0 u.1 sz mc post) mc ms (gA ad0 u.1 sz)
/-- a call of it, from depth d -/
def gCall (E : gEnv) (d mc ms y : Nat) (av : List Value) (rs : List Nat) (u : gS) (kc ks : Nat) (k : Nat → Nat → Option Value → gS → Prop) : Prop :=
  ∃ (d1 mc1 ms1 : Nat) (post : Option Value → gS → Prop), d1 < d ∧ kc + mc1 ≤ mc ∧ ks + ms1 ≤ ms ∧ (mc1 = 0 ∨ ∀ r ∈ rs, r < u.1 ∨ 1000 ≤ r) ∧ gCtr E d1 mc1 ms1 y av u post ∧ ∀ w u', u.1 ≤ u'.1 → post w u' → k (kc + mc1) (ks + ms1) w u'
-- what the instructions are told by: two ways, a side condition
def gbr (c A B : Prop) : Prop := (c → A) ∧ (¬ c → B)
def gsd (P A : Prop) : Prop := P ∧ A
theorem gbr_e {c A B : Prop} (h : gbr c A B) : (c → A) ∧ (¬ c → B) := h
theorem gsd_e {P A : Prop} (h : gsd P A) : P ∧ A := h
theorem gbr_i {c A B : Prop} (h1 : c → A) (h2 : ¬ c → B) : gbr c A B := ⟨h1, h2⟩
theorem gsd_i {P A : Prop} (h1 : P) (h2 : A) : gsd P A := ⟨h1, h2⟩
def gsw (x : Int32) : List (Int32 × Nat) → Nat → (Nat → Prop) → Prop
  | [], d, kk => kk d
  | q :: r, d, kk => gbr (x = q.1) (kk q.2) (gsw x r d kk)
def gobj (u : gS) (o a : Nat) (P : Prop) : Prop := match u.2.1 o with
  | .inl ci => cond (Nat.beq ci a) P False
  | .inr _ => False
/-- a field's value; of a String its coder (0), its bytes (1) -/
def ggf (u : gS) (a b o : Nat) : Value := match a with
  | 20 => (match b with
    | 0 => .int 0
    | _ => .ref (o + 100))
  | _ => gv u (gkd (gTy a b)) o b
def garr (u : gS) (o t : Nat) (P : Nat → Prop) : Prop := match u.2.1 o with
  | .inl _ => False
  | .inr q => cond (Nat.beq q.1 t) (P q.2) False
def garri (u : gS) (o : Nat) (i : Int32) (P : Nat → Int32 → Prop) : Prop := match u.2.1 o with
  | .inl _ => False
  | .inr q => (match q.1 with
    | 0 => P q.2 (u.2.2.1 o i.toNatClampNeg)
    | 10 => P 6 (gUNDER i.toNatClampNeg)
    | _ => False)
def garrb (u : gS) (o : Nat) (i : Int32) (P : Nat → Int32 → Prop) : Prop := match u.2.1 o with
  | .inl _ => False
  | .inr q => (match q.1 with
    | 1 => P q.2 (u.2.2.1 o i.toNatClampNeg)
    | 3 => P q.2 (u.2.2.1 o i.toNatClampNeg)
    | 11 => P q.2 ((gStrB.getD (o - 1100) []).getD i.toNatClampNeg 0)
    | _ => False)
def garrq (u : gS) (o : Nat) (P : Nat → Prop) : Prop := match u.2.1 o with
  | .inl _ => False
  | .inr q => (match q.1 with
    | 4 => P q.2
    | 5 => P q.2
    | _ => False)
def garrl (u : gS) (o : Nat) (P : Nat → Prop) : Prop := match u.2.1 o with
  | .inl _ => False
  | .inr q => cond (Nat.blt q.1 6) (P q.2) (cond (Nat.beq q.1 11) (P q.2) (cond (Nat.beq q.1 10) (P 6) False))
def gbst (u : gS) (o : Nat) (x : Int32) (P : Nat → Int32 → Prop) : Prop := match u.2.1 o with
  | .inl _ => False
  | .inr q => (match q.1 with
    | 1 => P q.2 (vp_nar .byte x)
    | 3 => P q.2 (vp_nar .boolean x)
    | _ => False)
def gqst (u : gS) (o x : Nat) (P : Nat → Prop) : Prop := match u.2.1 o with
  | .inl _ => False
  | .inr q => (match q.1 with
    | 4 => gobj u x 4 (P q.2)
    | 5 => gobj u x 7 (P q.2)
    | _ => False)
/-- a field's kind for a store: 0 int, 1 long, 2 reference, 3 boolean -/
def gfk (ty : FieldType) : Nat := match ty with
  | .int => 0
  | .long => 1
  | .object _ => 2
  | .array _ => 2
  | .boolean => 3
  | _ => 4
def gputf (a b : Nat) (k : gS → List Value → Prop) (st : List Value) (u : gS) : Prop := match gfk (gTy a b) with
  | 0 => g1i st (fun x st => g1r st (fun o st => gobj u o a (k (u.1, u.2.1, gset u.2.2.1 o (gupd (u.2.2.1 o) b x), u.2.2.2.1, u.2.2.2.2) st)))
  | 1 => g1l st (fun x st => g1r st (fun o st => gobj u o a (k (u.1, u.2.1, u.2.2.1, gset u.2.2.2.1 o (gupd (u.2.2.2.1 o) b x), u.2.2.2.2) st)))
  | 2 => g1r st (fun x st => g1r st (fun o st => gobj u o a (gsd (x < u.1 ∨ 1000 ≤ x) (k (u.1, u.2.1, u.2.2.1, u.2.2.2.1, gset u.2.2.2.2 o (gupd (u.2.2.2.2 o) b (some x))) st))))
  | 3 => g1i st (fun x st => g1r st (fun o st => gobj u o a (gsd (x = 0 ∨ x = 1) (k (u.1, u.2.1, gset u.2.2.1 o (gupd (u.2.2.1 o) b x), u.2.2.2.1, u.2.2.2.2) st))))
  | _ => False
def gstr (a : Nat) (k : Nat → Nat → Nat → gLv → List Value → gS → Prop) (kc ks nx : Nat) (lv : gLv) (v : Value) (st : List Value) (u : gS) : Prop := match a with
  | 0 => k kc ks nx lv (v :: st) u
  | i + 1 => k kc ks nx lv (.ref (1000 + i) :: st) u
def grefs1 : List Value → List Nat
  | [] => []
  | .ref r :: l => r :: grefs1 l
  | _ :: l => grefs1 l
def grefs : gLv → List Value → List Nat
  | [], st => grefs1 st
  | some (.ref r) :: l, st => r :: grefs l st
  | _ :: l, st => grefs l st
/-- a new cell: all 0, or null -/
def gborn (u : gS) (x : gSh) : gS := (u.1 + 1, gupd u.2.1 u.1 x, gset u.2.2.1 u.1 (fun _ => 0), gset u.2.2.2.1 u.1 (fun _ => 0), gset u.2.2.2.2 u.1 (fun _ => none))
/-- what an int method may return -/
def gzr (ret : Option FieldType) (x : Int32) (P : Prop) : Prop := match ret with
  | some .boolean => gsd (x = 0 ∨ x = 1) P
  | some .int => P
  | some .byte => gsd (narrow .byte (.int x) = .int x) P
  | some .char => gsd (narrow .char (.int x) = .int x) P
  | _ => False
def gzi (ret : Option FieldType) : Bool := match ret with
  | some .boolean => true
  | some .int => true
  | some .byte => true
  | some .char => true
  | _ => false
def gzo (ret : Option FieldType) : Bool := match ret with
  | some (.object _) => true
  | some (.array _) => true
  | _ => false
def gfit (kc ks mc ms : Nat) (P : Prop) : Prop := match kc, ks with
  | 0, 0 => P
  | kc, ks => gsd (kc ≤ mc ∧ ks ≤ ms) P
def gargs : Nat → List Value → List Value → (List Value → List Value → Prop) → Prop
  | 0, st, av, k => k av st
  | n + 1, v :: st, av, k => gargs n st (v :: av) k
  | _ + 1, [], _, _ => False
def gcats : List Value → Nat
  | [] => 0
  | v :: l => v.category + gcats l
def gcatok (st : List Value) (P : Prop) : Prop := cond (Nat.ble (gcats st) 8) P False
/-- the receiver is an object of the class that the row tells -/
def grecv (u : gS) (av : List Value) (sw : List (Int32 × Nat)) (P : Prop) : Prop := match av with
  | .ref o :: _ => (match sw with
    | [q] => gobj u o q.2 P
    | _ => False)
  | _ => False
/-- Math.max, Math.min (gstc); else a call -/
def gcpyp (st : List Value) (k : Nat → Int32 → Nat → Int32 → Int32 → List Value → Prop) : Prop := g1i st (fun n st => g1i st (fun dp st => g1r st (fun d0 st => g1i st (fun sp st => g1r st (fun s0 st => k s0 sp d0 dp n st)))))
def gcpyc (d : Nat) (st : List Value) (sp dp n : Int32) (n0 n1 : Nat) (P : Prop) : Prop := cond (Nat.blt 0 d) (gcatok st (gsd ((¬ sp < 0) ∧ (¬ dp < 0) ∧ (¬ n < 0) ∧ sp.toNatClampNeg + n.toNatClampNeg ≤ n0 ∧ dp.toNatClampNeg + n.toNatClampNeg ≤ n1) P)) False
def gisr (av : List Value) (P : Prop) : Prop := match av with
  | .ref _ :: _ => P
  | _ => False
def gstc (a : Nat) (st : List Value) (d kc ks mc ms : Nat) (k : Value → List Value → Prop) (k2 : List Value → gS → Prop) (u : gS) (P : Prop) : Prop := match a with
  | 9001 => g2i st (fun y x st => cond (Nat.blt 0 d) (gcatok st (gfit kc ks mc ms (k (.int (if x < y then y else x)) st))) False)
  | 9002 => g2i st (fun y x st => cond (Nat.blt 0 d) (gcatok st (gfit kc ks mc ms (k (.int (if y < x then y else x)) st))) False)
  | 9003 => gcpyp st (fun s0 sp d0 dp n st => garr u s0 0 (fun n0 => garr u d0 0 (fun n1 => gcpyc d st sp dp n n0 n1 (k2 st (u.1, u.2.1, gset u.2.2.1 d0 (va_cpy (u.2.2.1 s0) (u.2.2.1 d0) sp.toNatClampNeg dp.toNatClampNeg n.toNatClampNeg), u.2.2.2.1, u.2.2.2.2)))))
  | 9004 => gcpyp st (fun s0 sp d0 dp n st => garr u s0 2 (fun n0 => garr u d0 2 (fun n1 => gcpyc d st sp dp n n0 n1 (k2 st (u.1, u.2.1, u.2.2.1, gset u.2.2.2.1 d0 (va_cpy (u.2.2.2.1 s0) (u.2.2.2.1 d0) sp.toNatClampNeg dp.toNatClampNeg n.toNatClampNeg), u.2.2.2.2)))))
  | _ => P
/-- what an instruction does -/
def gstp (C : List gI) (ca : Nat → List Value → List Nat → gS → Nat → Nat → (Nat → Nat → Option Value → gS → Prop) → Prop) (d : Nat) (ret : Option FieldType) (post : Option Value → gS → Prop) (mc ms : Nat) (k : Nat → Nat → Nat → gLv → List Value → gS → Prop) (kc ks pc : Nat) (lv : gLv) (st : List Value) (u : gS) : Prop :=
  match gfind C pc with
  | none => False
  | some (nx, ins, (a, b, _), v, sw) => match ins with
    | .iconst _ => k kc ks nx lv (v :: st) u
    | .bipush _ => k kc ks nx lv (v :: st) u
    | .sipush _ => k kc ks nx lv (v :: st) u
    | .lconst _ => k kc ks nx lv (v :: st) u
    | .ldc _ => gstr a k kc ks nx lv v st u
    | .ldc_w _ => k kc ks nx lv (v :: st) u
    | .ldc2_w _ => k kc ks nx lv (v :: st) u
    | .iload_n i => gldi lv i.val (fun x => k kc ks nx lv (.int x :: st) u)
    | .iload i => gldi lv i (fun x => k kc ks nx lv (.int x :: st) u)
    | .istore_n i => g1i st (fun x st => k kc ks nx (gsto1 lv i.val (.int x)) st u)
    | .istore i => g1i st (fun x st => k kc ks nx (gsto1 lv i (.int x)) st u)
    | .lload_n i => gldl lv i.val (fun x => k kc ks nx lv (.long x :: st) u)
    | .lload i => gldl lv i (fun x => k kc ks nx lv (.long x :: st) u)
    | .lstore_n i => g1l st (fun x st => k kc ks nx (gsto2 lv i.val (.long x)) st u)
    | .lstore i => g1l st (fun x st => k kc ks nx (gsto2 lv i (.long x)) st u)
    | .aload_n i => gldr lv i.val (fun x => k kc ks nx lv (.ref x :: st) u)
    | .aload i => gldr lv i (fun x => k kc ks nx lv (.ref x :: st) u)
    | .astore_n i => g1r st (fun x st => k kc ks nx (gsto1 lv i.val (.ref x)) st u)
    | .astore i => g1r st (fun x st => k kc ks nx (gsto1 lv i (.ref x)) st u)
    | .iinc i _ => gldi lv i (fun x => g1i [v] (fun y _ => k kc ks nx (gsto1 lv i (.int (x + y))) st u))
    | .iadd => g2i st (fun y x st => k kc ks nx lv (.int (x + y) :: st) u)
    | .isub => g2i st (fun y x st => k kc ks nx lv (.int (x - y) :: st) u)
    | .imul => g2i st (fun y x st => k kc ks nx lv (.int (x * y) :: st) u)
    | .iand => g2i st (fun y x st => k kc ks nx lv (.int (x &&& y) :: st) u)
    | .ior => g2i st (fun y x st => k kc ks nx lv (.int (x ||| y) :: st) u)
    | .ixor => g2i st (fun y x st => k kc ks nx lv (.int (x ^^^ y) :: st) u)
    | .ishl => g2i st (fun y x st => k kc ks nx lv (.int (x <<< (y &&& 31)) :: st) u)
    | .ishr => g2i st (fun y x st => k kc ks nx lv (.int (x >>> (y &&& 31)) :: st) u)
    | .iushr => g2i st (fun y x st => k kc ks nx lv (.int ((x.toUInt32 >>> (y.toUInt32 &&& Int32.toUInt32 31)).toInt32) :: st) u)
    | .ladd => g2l st (fun y x st => k kc ks nx lv (.long (x + y) :: st) u)
    | .lsub => g2l st (fun y x st => k kc ks nx lv (.long (x - y) :: st) u)
    | .lmul => g2l st (fun y x st => k kc ks nx lv (.long (x * y) :: st) u)
    | .land => g2l st (fun y x st => k kc ks nx lv (.long (x &&& y) :: st) u)
    | .lor => g2l st (fun y x st => k kc ks nx lv (.long (x ||| y) :: st) u)
    | .lxor => g2l st (fun y x st => k kc ks nx lv (.long (x ^^^ y) :: st) u)
    | .lshl => g1i st (fun y st => g1l st (fun x st => k kc ks nx lv (.long (x <<< (y.toInt64 &&& 63)) :: st) u))
    | .lshr => g1i st (fun y st => g1l st (fun x st => k kc ks nx lv (.long (x >>> (y.toInt64 &&& 63)) :: st) u))
    | .lushr => g1i st (fun y st => g1l st (fun x st => k kc ks nx lv (.long ((x.toUInt64 >>> (y.toInt64.toUInt64 &&& Int64.toUInt64 63)).toInt64) :: st) u))
    | .idiv => g2i st (fun y x st => gsd (¬ y = 0) (k kc ks nx lv (.int (x / y) :: st) u))
    | .irem => g2i st (fun y x st => gsd (¬ y = 0) (k kc ks nx lv (.int (x - x / y * y) :: st) u))
    | .ineg => g1i st (fun x st => k kc ks nx lv (.int (-x) :: st) u)
    | .i2l => g1i st (fun x st => k kc ks nx lv (.long (x.toInt64) :: st) u)
    | .l2i => g1l st (fun x st => k kc ks nx lv (.int (x.toInt32) :: st) u)
    | .i2b => g1i st (fun x st => k kc ks nx lv (.int (x.toInt8.toInt32) :: st) u)
    | .i2s => g1i st (fun x st => k kc ks nx lv (.int (x.toInt16.toInt32) :: st) u)
    | .i2c => g1i st (fun x st => k kc ks nx lv (.int ((x.toUInt32 % 65536).toInt32) :: st) u)
    | .lcmp => g2l st (fun y x st => k kc ks nx lv (.int (lg_cmp x y) :: st) u)
    | .dup => g1v st (fun w st => k kc ks nx lv (w :: w :: st) u)
    | .pop => g1v st (fun w st => k kc ks nx lv st u)
    | .dup_x1 => g1v st (fun w st => g1v st (fun z st => k kc ks nx lv (w :: z :: w :: st) u))
    | .dup2 => g1v st (fun w st => g1v st (fun z st => k kc ks nx lv (w :: z :: w :: z :: st) u))
    | .ifCond .eq _ => g1i st (fun x st => gbr (x = 0) (k kc ks a lv st u) (k kc ks nx lv st u))
    | .if_icmp .eq _ => g2i st (fun y x st => gbr (x = y) (k kc ks a lv st u) (k kc ks nx lv st u))
    | .ifCond .ne _ => g1i st (fun x st => gbr (x = 0) (k kc ks nx lv st u) (k kc ks a lv st u))
    | .if_icmp .ne _ => g2i st (fun y x st => gbr (x = y) (k kc ks nx lv st u) (k kc ks a lv st u))
    | .ifCond .lt _ => g1i st (fun x st => gbr (x < 0) (k kc ks a lv st u) (k kc ks nx lv st u))
    | .if_icmp .lt _ => g2i st (fun y x st => gbr (x < y) (k kc ks a lv st u) (k kc ks nx lv st u))
    | .ifCond .ge _ => g1i st (fun x st => gbr (0 ≤ x) (k kc ks a lv st u) (k kc ks nx lv st u))
    | .if_icmp .ge _ => g2i st (fun y x st => gbr (y ≤ x) (k kc ks a lv st u) (k kc ks nx lv st u))
    | .ifCond .gt _ => g1i st (fun x st => gbr (0 < x) (k kc ks a lv st u) (k kc ks nx lv st u))
    | .if_icmp .gt _ => g2i st (fun y x st => gbr (y < x) (k kc ks a lv st u) (k kc ks nx lv st u))
    | .ifCond .le _ => g1i st (fun x st => gbr (x ≤ 0) (k kc ks a lv st u) (k kc ks nx lv st u))
    | .if_icmp .le _ => g2i st (fun y x st => gbr (x ≤ y) (k kc ks a lv st u) (k kc ks nx lv st u))
    | .goto _ => k kc ks a lv st u
    | .ifnonnull _ => (match st with
      | .ref _ :: st => k kc ks a lv st u
      | .null :: st => k kc ks nx lv st u
      | _ => False)
    | .tableswitch _ _ _ _ => g1i st (fun x st => gsw x sw a (fun t => k kc ks t lv st u))
    | .lookupswitch _ _ => g1i st (fun x st => gsw x sw a (fun t => k kc ks t lv st u))
    | .getfield _ => g1r st (fun o st => gobj u o a (k kc ks nx lv (ggf u a b o :: st) u))
    | .getstatic _ => (match a with
      | 1 => k kc ks nx lv (.ref 1200 :: st) u
      | 2 => k kc ks nx lv (.int 1 :: st) u
      | 3 => gsd (k kc ks nx lv (.null :: st) u) (k kc ks nx lv (.ref 1300 :: st) u)
      | _ => False)
    | .putfield _ => gputf a b (fun u st => k kc ks nx lv st u) st u
    | .iaload => g1i st (fun i st => g1r st (fun o st => garri u o i (fun len x => gsd (vp_in i len) (k kc ks nx lv (.int x :: st) u))))
    | .baload => g1i st (fun i st => g1r st (fun o st => garrb u o i (fun len x => gsd (vp_in i len) (k kc ks nx lv (.int x :: st) u))))
    | .laload => g1i st (fun i st => g1r st (fun o st => garr u o 2 (fun len => gsd (vp_in i len) (k kc ks nx lv (.long (u.2.2.2.1 o i.toNatClampNeg) :: st) u))))
    | .aaload => g1i st (fun i st => g1r st (fun o st => garrq u o (fun len => gsd (vp_in i len) (k kc ks nx lv (va_rf (u.2.2.2.2 o i.toNatClampNeg) :: st) u))))
    | .iastore => g2i st (fun x i st => g1r st (fun o st => garr u o 0 (fun len => gsd (vp_in i len) (k kc ks nx lv st (u.1, u.2.1, gset u.2.2.1 o (gupd (u.2.2.1 o) i.toNatClampNeg x), u.2.2.2.1, u.2.2.2.2)))))
    | .bastore => g2i st (fun x i st => g1r st (fun o st => gbst u o x (fun len y => gsd (vp_in i len) (k kc ks nx lv st (u.1, u.2.1, gset u.2.2.1 o (gupd (u.2.2.1 o) i.toNatClampNeg y), u.2.2.2.1, u.2.2.2.2)))))
    | .lastore => g1l st (fun x st => g1i st (fun i st => g1r st (fun o st => garr u o 2 (fun len => gsd (vp_in i len) (k kc ks nx lv st (u.1, u.2.1, u.2.2.1, gset u.2.2.2.1 o (gupd (u.2.2.2.1 o) i.toNatClampNeg x), u.2.2.2.2))))))
    | .aastore => g1r st (fun x st => g1i st (fun i st => g1r st (fun o st => gqst u o x (fun len => gsd (vp_in i len) (k kc ks nx lv st (u.1, u.2.1, u.2.2.1, u.2.2.2.1, gset u.2.2.2.2 o (gupd (u.2.2.2.2 o) i.toNatClampNeg (some x))))))))
    | .arraylength => g1r st (fun o st => garrl u o (fun len => k kc ks nx lv (.int (nI len) :: st) u))
    | .new _ => gsd ((∀ r ∈ grefs lv st, r < u.1 ∨ 1000 ≤ r) ∧ u.1 < 900 ∧ kc + 1 ≤ mc ∧ ks + gN a ≤ ms) (k (kc + 1) (ks + gN a) nx lv (.ref u.1 :: st) (gborn u (.inl a)))
    | .newarray _ => g1i st (fun n st => gsd ((∀ r ∈ grefs lv st, r < u.1 ∨ 1000 ≤ r) ∧ u.1 < 900 ∧ (¬ n < 0) ∧ kc + 1 ≤ mc ∧ ks + n.toNatClampNeg ≤ ms ∧ n.toNatClampNeg ≤ 100000) (k (kc + 1) (ks + n.toNatClampNeg) nx lv (.ref u.1 :: st) (gborn u (.inr (a, n.toNatClampNeg)))))
    | .anewarray _ => g1i st (fun n st => gsd ((∀ r ∈ grefs lv st, r < u.1 ∨ 1000 ≤ r) ∧ u.1 < 900 ∧ (¬ n < 0) ∧ kc + 1 ≤ mc ∧ ks + n.toNatClampNeg ≤ ms ∧ n.toNatClampNeg ≤ 100000) (k (kc + 1) (ks + n.toNatClampNeg) nx lv (.ref u.1 :: st) (gborn u (.inr (a, n.toNatClampNeg)))))
    | .ireturn => (match st with
      | [.int x] => gzr ret x (gfit kc ks mc ms (post (some (.int x)) u))
      | _ => False)
    | .lreturn => (match st with
      | [.long x] => gfit kc ks mc ms (post (some (.long x)) u)
      | _ => False)
    | .areturn => (match st with
      | [.ref x] => gfit kc ks mc ms (post (some (.ref x)) u)
      | _ => False)
    | .return_ => (match st with
      | [] => gfit kc ks mc ms (post none u)
      | _ => False)
    | .invokevirtual _ => gargs (b + 1) st [] (fun av st => grecv u av sw (gcatok st (ca a av (grefs lv st) u kc ks (fun kc ks w u => k kc ks nx lv (w.toList ++ st) u))))
    | .invokestatic _ => gstc a st d kc ks mc ms (fun w st => k kc ks nx lv (w :: st) u) (fun st u => k kc ks nx lv st u) u (gargs b st [] (fun av st => gcatok st (ca a av (grefs lv st) u kc ks (fun kc ks w u => k kc ks nx lv (w.toList ++ st) u))))
    | .invokespecial _ => cond (Nat.beq a 9999) (g1r st (fun _ st => cond (Nat.blt 0 d) (gcatok st (k kc ks nx lv st u)) False)) (gargs (b + 1) st [] (fun av st => gisr av (gcatok st (ca a av (grefs lv st) u kc ks (fun kc ks w u => k kc ks nx lv (w.toList ++ st) u)))))
    | _ => False
/-- a row of a method is as its code and the tables say -/
def gchk (own : String) (cc : ByteArray) (nL : Nat) (ret : Option FieldType) (ini : Bool) : gI → Bool := fun (pc, nx, ins, (a, b, c), v, sw) =>
  decide (decode cc pc = .ok (ins, nx - pc)) && (match ins with
    | .iconst n => Nat.beq nx (pc + 1) && decide (v = Value.int (Int32.ofInt n))
    | .bipush n => Nat.beq nx (pc + 2) && decide (v = Value.int (Int8.ofInt n).toInt32)
    | .sipush n => Nat.beq nx (pc + 3) && decide (v = Value.int (Int16.ofInt n).toInt32)
    | .lconst n => Nat.beq nx (pc + 1) && decide (v = Value.long (Int64.ofNat (n : Nat)))
    | .ldc i => Nat.beq nx (pc + 2) && (match v with
      | .int x => gat c (.constant own i x) && Nat.beq a 0
      | _ => Nat.beq a (c + 1) && (match gStr[c]? with
        | some q => decide (q.1 = own) && decide (q.2.1 = i)
        | none => false))
    | .ldc_w i => Nat.beq nx (pc + 3) && (match v with
      | .int x => gat c (.constant own i x)
      | _ => false)
    | .ldc2_w i => Nat.beq nx (pc + 3) && (match v with
      | .long x => gat c (.constantLong own i x)
      | _ => false)
    | .iload_n _ => Nat.beq nx (pc + 1)
    | .iload _ => Nat.beq nx (pc + 2)
    | .istore_n i => Nat.beq nx (pc + 1) && Nat.blt i.val nL
    | .istore i => Nat.beq nx (pc + 2) && Nat.blt i nL
    | .lload_n _ => Nat.beq nx (pc + 1)
    | .lload _ => Nat.beq nx (pc + 2)
    | .lstore_n i => Nat.beq nx (pc + 1) && Nat.blt (i.val + 1) nL
    | .lstore i => Nat.beq nx (pc + 2) && Nat.blt (i + 1) nL
    | .aload_n _ => Nat.beq nx (pc + 1)
    | .aload _ => Nat.beq nx (pc + 2)
    | .astore_n i => Nat.beq nx (pc + 1) && Nat.blt i.val nL
    | .astore i => Nat.beq nx (pc + 2) && Nat.blt i nL
    | .iinc i n => Nat.beq nx (pc + 3) && (Nat.blt i nL && decide (v = Value.int (Int32.ofInt n)))
    | .ifCond _ off => Nat.beq nx (pc + 3) && decide ((pc : Int) + off = (a : Int))
    | .if_icmp _ off => Nat.beq nx (pc + 3) && decide ((pc : Int) + off = (a : Int))
    | .goto off => Nat.beq nx (pc + 3) && decide ((pc : Int) + off = (a : Int))
    | .ifnonnull off => Nat.beq nx (pc + 3) && decide ((pc : Int) + off = (a : Int))
    | .tableswitch df lo hi offs => decide ((pc : Int) + df = (a : Int)) && (decide (sw.map (fun q => q.1.toInt) = (List.range offs.size).map (fun j : Nat => lo + (j : Int))) && (decide (sw.map (fun q => (q.2 : Int)) = offs.toList.map (fun o => (pc : Int) + o)) && decide (hi = lo + (offs.size : Int) - 1)))
    | .lookupswitch df ps => decide ((pc : Int) + df = (a : Int)) && (decide (sw.map (fun q => (q.1.toInt, (q.2 : Int))) = ps.toList.map (fun o => (o.1, (pc : Int) + o.2))) && (ps.toList.zip (ps.toList.drop 1)).all (fun (a, next) => a.1 < next.1))
    | .getstatic i => Nat.beq nx (pc + 3) && (match a with
      | 1 => gat c (.fieldLink own i RX6 "UNDER" "[I")
      | 2 => gat c (.fieldLink own i "java/lang/String" "COMPACT_STRINGS" "Z")
      | 3 => gat c (.fieldLink own i "jdk/internal/util/Preconditions" "SIOOBE_FORMATTER" "Ljava/util/function/BiFunction;")
      | _ => false)
    | .getfield i => Nat.beq nx (pc + 3) && (cond (Nat.beq a 20) (match b with
      | 0 => gat c (.fieldLink own i "java/lang/String" "coder" "B")
      | _ => gat c (.fieldLink own i "java/lang/String" "value" "[B")) (match vwCl[a]? with
      | some q => Nat.blt b q.2.2 && (decide ((q.2.1 b).1 = q.1) && gat c (.fieldLink own i q.1 (q.2.1 b).2.1 (q.2.1 b).2.2.1))
      | none => false))
    | .putfield i => Nat.beq nx (pc + 3) && (match vwCl[a]? with
      | some q => Nat.blt b q.2.2 && (decide ((q.2.1 b).1 = q.1) && (gat c (.fieldLink own i q.1 (q.2.1 b).2.1 (q.2.1 b).2.2.1) && (!(q.2.1 b).2.2.2 || (ini && decide (q.1 = own)))))
      | none => false)
    | .new i => Nat.beq nx (pc + 3) && (match vwCl[a]? with
      | some q => gat b (.classLink own i q.1) && (gat c (.instantiable q.1 q.2.2) && (match sw with
        | [(_, p)] => gat p (.initialized q.1)
        | _ => false))
      | none => false)
    | .newarray t => Nat.beq nx (pc + 2) && (gat c (.arrayClass (newarray.typeOf t)) && (Nat.blt a 4 && decide (gtc a = newarray.typeOf t)))
    | .anewarray i => Nat.beq nx (pc + 3) && ((Nat.beq a 4 && gat c (.classLink own i RX4)) || (Nat.beq a 5 && gat c (.classLink own i RX7)))
    | .lreturn => Nat.beq nx (pc + 1) && decide (ret = some .long)
    | .ireturn => Nat.beq nx (pc + 1) && gzi ret
    | .areturn => Nat.beq nx (pc + 1) && gzo ret
    | .return_ => Nat.beq nx (pc + 1) && decide (ret = none)
    | .invokevirtual i => Nat.beq nx (pc + 3) && (match gMt[a]? with
      | some q => Nat.beq b q.2.2.2.2.2.1 && (Nat.beq q.2.2.2.2.1 1 && (gat c (.methodLink own i q.1) && (match sw with
        | [z] => cond (Nat.beq z.2 20) (decide (q.1.cls = "java/lang/String")) (match vwCl[z.2]? with
          | some w => decide (w.1 = q.1.cls)
          | none => false)
        | _ => false)))
      | none => false)
    | .invokestatic i => Nat.beq nx (pc + 3) && (cond (Nat.blt a 9000) (match gMt[a]? with
      | some q => Nat.beq b q.2.2.2.2.2.1 && (Nat.beq q.2.2.2.2.1 0 && (cond (Nat.blt c 5000) (gat c (.methodLink own i q.1)) (decide (gNest[c - 5000]? = some (.methodLinkNest own i q.1 RX9)))))
      | none => false) (match a with
      | 9001 => gat c (.methodLink own i Lib.Math.max.name)
      | 9002 => gat c (.methodLink own i Lib.Math.min.name)
      | 9003 => gat c (.methodLink own i arraycopyName)
      | 9004 => gat c (.methodLink own i arraycopyName)
      | _ => false))
    | .invokespecial i => Nat.beq nx (pc + 3) && (cond (Nat.beq a 9999) (gat c (.methodLink own i objectInit)) (match gMt[a]? with
      | some q => Nat.beq b q.2.2.2.2.2.1 && (Nat.beq q.2.2.2.2.1 2 && (cond (Nat.blt c 5000) (gat c (.methodLink own i q.1)) (decide (gNest[c - 5000]? = some (.methodLinkNest own i q.1 RX9)))))
      | none => false))
    | _ => Nat.beq nx (pc + 1))
