def tsW (w : Nat → Nat → Int32) (K : Nat) (x y z : Int32) : Nat → Nat → Int32 := va_up (va_up (va_up (va_up (va_up w 4 (upd (w 4) K x)) 8 (upd (w 8) K y)) 7 (upd (w 7) K z)) 5 (upd (w 5) K 0)) 6 (upd (w 6) K 1440)
/-- the facts behind a job that was told: from a to b, the load c, the minutes d, the fine e -/
def tjF (w : Nat → Nat → Int32) (NJ : Nat) (a b c d e : Int32) : Nat → Nat → Int32 := tsW (tsW (va_up w 3 (upd (w 3) NJ e)) (2 * NJ) a c d) (2 * NJ + 1) b (-c) d
