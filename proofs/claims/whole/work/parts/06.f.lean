def f_X9_needPlace_B10  : Option ((Nat) ⊕ (Unit)) := some (.inl 1)
def f_X9_needPlace (p0 : Int32) : Option ((Nat) ⊕ (Unit)) := if p0 < 0 then f_X9_needPlace_B10 else if p0 < (16 : Int32) then some (.inr ()) else f_X9_needPlace_B10
