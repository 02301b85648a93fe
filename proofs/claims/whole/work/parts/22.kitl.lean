/-! Contracts whose start has what a thrower below needs. -/
def kIx (l : Launch) (g : va_G) (ty : List (ClassId × FieldType)) (y : MethodName) (wy : List Cond) (rm : Room) (av : List Value) (w0 : va_W) {S : Type} (post : Int32 → S → Prop) (w1 : S → va_W) (mc ms : Nat) : Prop := ∀ sz : Nat, Met l y wy rm (kPx g ty av w0 sz) (va_Qi post (kB g w0 sz w1) (va_A w0 sz)) mc ms (va_A w0 sz)
