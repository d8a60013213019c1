/-! TEXTS OF CONSTANTS: what the JDK's members answer of them -/
def c_sch (k i : Nat) : Int32 := (c_byt.getD k []).getD i 0
def c_ioF (c : Int32) : List Int32 → Nat → Int32
  | [], _ => -1
  | b :: l, k => if b = c then nI k else c_ioF c l (k + 1)
def c_sio (k : Nat) (c : Int32) : Int32 := c_ioF c (c_byt.getD k []) 0
theorem c_preVs {s : State} {H : Heap} {locs : List Loc} {As : List Value} {D : va_G} {tc : Nat → ClassId} {ad : Nat → Nat} {A : Nat → Prop} {E : (Nat → Nat) × (Nat → Nat) × Nat} {T : List c_T} {g : c_G} {k : Nat} (hK : va_K D vwCl (c_tys tc) s) (hP : va_P D vwCl (c_ws tc ad T g) H) (hE : c_E A E s s.heap) (hS : va_S A s.heap H locs) (hk : k < 5) : PreV s H "java/lang/String" (E.1 k) (va_Pc (.ref (E.1 k) :: As) (c_Pr D tc ad A E T g)) As :=
  ⟨(c_preS (av := .ref (E.1 k) :: As) hK hP hE hS).1, vk_recv hE.1.1 hk hS, (c_preS (av := .ref (E.1 k) :: As) hK hP hE hS).2⟩
