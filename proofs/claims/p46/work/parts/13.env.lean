/-! what the tables and the start say of constants: strings, the kinds of orders, the exceptions' statics; gK: 0..9 the kinds, 10 KINDS, 11 the switch row, 20+i a text, 40+i its bytes -/
def sTxt : List (List Nat) := [[], [42], [91], [126], [93], [115], [61], [47], [94], [64], [33], [37]]
def sLet (i : Nat) : List Nat := sTxt.getD i []
def sMsg : List (Nat × String) := [(414, "this is refused"), (396, "there is no such room"), (129, "no such number of a room"), (401, "there is no such echo"), (156, "no such number of an echo"), (406, "there is no such singer"), (182, "no such number of a singer"), (408, "the singer is outside"), (206, "there are no rooms"), (226, "the echo is not let"), (234, "no such place in the order of rooms"), (236, "no such order of singers"), (242, "no such place in the order of singers"), (248, "no such place in the order of echoes"), (288, "the text has a fault"), (296, "an order is refused"), (302, "no such depth"), (308, "nothing was refused"), (319, "there is no cause"), (347, "no such index in the line"), (370, "no such account"), (375, "there are no echoes")]
def sExc : List String := ["java/lang/UnsupportedOperationException", "java/lang/IndexOutOfBoundsException", "java/lang/IllegalArgumentException", "java/util/NoSuchElementException", "java/lang/ArithmeticException"]
def sDec : List String := ["java/lang/RuntimeException", "java/lang/Exception", Bundle.tN]
def eNm : List String := ["ROOM", "ECHO", "SINGER", "ENTER", "OUT", "CARRY", "RENT", "BACK", "SING", "NIGHT"]
def eF : List (String × String × String × List Int32) := [("java/lang/Enum", "ordinal", "I", [0, 1, 2, 3, 4, 5, 6, 7, 8, 9]), ("EchoCouncil$OrderKind", "numbers", "I", [1, 2, 2, 2, 1, 2, 3, 2, 1, 0]), ("EchoCouncil$OrderKind", "digitsOfLast", "I", [1, 1, 2, 1, 1, 1, 1, 1, 1, 0])]
/-- a constant text: her object, her bytes -/
def EnvC1 (A : Nat → Prop) (t v : Nat) (w : List Nat) (U : State) (H : Heap) : Prop :=
  va_O "java/lang/String" t A U H ∧ va_OF "java/lang/String" "coder" "B" (.int 0) t A U H ∧ va_OF "java/lang/String" "value" "[B" (.ref v) t A U H ∧ va_T .byte v w.length (fun j => .int (nI (w.getD j 0))) A U H
theorem EnvC1.go {A : Nat → Prop} {t v : Nat} {w : List Nat} {u U : State} {H H1 : Heap} (hW : u.WarmedH U.vm) (hq : ∀ a : Nat, a < H.size → ¬ A a → H1[a]? = H[a]?) (h : EnvC1 A t v w u H) : EnvC1 A t v w U H1 :=
  ⟨(va_O.moved hW.alike h.1).kept hq, (va_OF.moved hW.alike h.2.1).kept hq, (va_OF.moved hW.alike h.2.2.1).kept hq, (va_T.moved hW.alike h.2.2.2).kept hq⟩
def EnvS (A : Nat → Prop) (kd : Nat → Nat) (U : State) (H : Heap) : Prop :=
  (∀ i, i < 12 → EnvC1 A (kd (20 + i)) (kd (40 + i)) (sLet i) U H) ∧ va_Z "java/lang/String" "COMPACT_STRINGS" "Z" (.int 1) A U H ∧ va_Zq "jdk/internal/util/Preconditions" "SIOOBE_FORMATTER" "Ljava/util/function/BiFunction;" A U H
def EnvT (A : Nat → Prop) (U : State) (H : Heap) : Prop :=
  vx_Zq Bundle.tN "UNASSIGNED_STACK" Bundle.steD A U H ∧ vx_Zq Bundle.tN "SUPPRESSED_SENTINEL" Bundle.listD A U H ∧ (∀ E ∈ sExc, va_Nw (.castable E E) U ∧ ∀ w ∈ sDec, va_Nw (.declares (Bundle.initS w)) U) ∧ (∀ p ∈ sMsg, ∃ a, vk_R "EchoCouncil" p.1 p.2 a U)
def swI (i : Nat) : Int32 := ([1, 2, 3, 4, 5, 6, 7, 8, 9, 0] : List Int32).getD i 0
def dgO (i : Nat) : Int32 := nI (48 + i % 10)
def dgT (i : Nat) : Int32 := nI (48 + i / 10)
def EnvD (A : Nat → Prop) (kd : Nat → Nat) (U : State) (H : Heap) : Prop :=
  va_Z "java/lang/Integer" "DigitOnes" "[B" (.ref (kd 12)) A U H ∧ va_T .byte (kd 12) 100 (fun j => .int (dgO j)) A U H ∧ va_Z "java/lang/Integer" "DigitTens" "[B" (.ref (kd 13)) A U H ∧ va_T .byte (kd 13) 100 (fun j => .int (dgT j)) A U H
theorem EnvD.go {A : Nat → Prop} {kd : Nat → Nat} {u U : State} {H H1 : Heap} (hW : u.WarmedH U.vm) (hq : ∀ a : Nat, a < H.size → ¬ A a → H1[a]? = H[a]?) (h : EnvD A kd u H) : EnvD A kd U H1 :=
  ⟨(va_Z.moved hW.alike h.1).kept hq, (va_T.moved hW.alike h.2.1).kept hq, (va_Z.moved hW.alike h.2.2.1).kept hq, (va_T.moved hW.alike h.2.2.2).kept hq⟩
def EnvK (A : Nat → Prop) (kd : Nat → Nat) (U : State) (H : Heap) : Prop :=
  va_En "EchoCouncil$OrderKind" "LEchoCouncil$OrderKind;" eNm eF kd A U H ∧
  va_Z "EchoCouncil" "KINDS" "[LEchoCouncil$OrderKind;" (.ref (kd 10)) A U H ∧ va_T (.object "EchoCouncil$OrderKind") (kd 10) 10 (fun j => .ref (kd j)) A U H ∧
  va_Z "EchoCouncil$1" "$SwitchMap$EchoCouncil$OrderKind" "[I" (.ref (kd 11)) A U H ∧ va_T .int (kd 11) 10 (fun j => .int (swI j)) A U H ∧
  va_Nw (.fieldLinkNest "EchoCouncil$OrderText" 51 "EchoCouncil" "KINDS" "[LEchoCouncil$OrderKind;" "EchoCouncil") U ∧ EnvD A kd U H
def EnvX (A : Nat → Prop) (kd : Nat → Nat) (U : State) (H : Heap) : Prop := EnvS A kd U H ∧ EnvT A U H ∧ EnvK A kd U H
theorem EnvS.go {A : Nat → Prop} {kd : Nat → Nat} {u U : State} {H H1 : Heap} (hW : u.WarmedH U.vm) (hq : ∀ a : Nat, a < H.size → ¬ A a → H1[a]? = H[a]?) (h : EnvS A kd u H) : EnvS A kd U H1 :=
  ⟨fun i hi => (h.1 i hi).go hW hq, (va_Z.moved hW.alike h.2.1).kept hq, (va_Zq.moved hW.alike h.2.2).kept hq⟩
theorem EnvT.go {A : Nat → Prop} {u U : State} {H H1 : Heap} (hW : u.WarmedH U.vm) (hq : ∀ a : Nat, a < H.size → ¬ A a → H1[a]? = H[a]?) (h : EnvT A u H) : EnvT A U H1 :=
  ⟨(vx_Zq.moved hW.alike h.1).kept hq, (vx_Zq.moved hW.alike h.2.1).kept hq, fun E hE => ⟨(h.2.2.1 E hE).1.warmC hW, fun w hw => ((h.2.2.1 E hE).2 w hw).warmD hW⟩, fun p hp => by
    obtain ⟨a, ha⟩ := h.2.2.2 p hp
    exact ⟨a, ha.warm hW⟩⟩
theorem EnvK.go {A : Nat → Prop} {kd : Nat → Nat} {u U : State} {H H1 : Heap} (hW : u.WarmedH U.vm) (hq : ∀ a : Nat, a < H.size → ¬ A a → H1[a]? = H[a]?) (h : EnvK A kd u H) : EnvK A kd U H1 :=
  ⟨(va_En.moved hW.alike h.1).kept hq, (va_Z.moved hW.alike h.2.1).kept hq, (va_T.moved hW.alike h.2.2.1).kept hq, (va_Z.moved hW.alike h.2.2.2.1).kept hq, (va_T.moved hW.alike h.2.2.2.2.1).kept hq, h.2.2.2.2.2.1.warmF hW, h.2.2.2.2.2.2.go hW hq⟩
theorem EnvX.go {A : Nat → Prop} {kd : Nat → Nat} {u U : State} {H H1 : Heap} (hW : u.WarmedH U.vm) (hq : ∀ a : Nat, a < H.size → ¬ A a → H1[a]? = H[a]?) (h : EnvX A kd u H) : EnvX A kd U H1 :=
  ⟨h.1.go hW hq, h.2.1.go hW hq, h.2.2.go hW hq⟩
def isS (g : aG) : Prop := gCl g ∧ ∀ U H, gEn g U H → EnvS (gA g) (gK g) U H
theorem isS.cl {g : aG} (h : isS g) : gCl g := h.1
