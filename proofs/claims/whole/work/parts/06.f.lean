def f_X4_limb (p0_size : Int32) (p0_limbs : (Nat → Int64)) (p1 : Int32) : Option (Int64) := if p1 < 0 then some (0 : Int64) else if p0_size ≤ p1 then some (0 : Int64) else if vIn p1 160 = true then some (p0_limbs p1.toNatClampNeg) else none
def f_X4_trim_L0 (p0_limbs : (Nat → Int64)) : Nat → Int32 → Option (Int32)
  | 0, _ => none
  | n + 1, p0_size => if p0_size ≤ 0 then some p0_size else if vIn (p0_size - (1 : Int32)) 160 = true then if (lg_cmp (p0_limbs (p0_size - (1 : Int32)).toNatClampNeg) (0 : Int64)) = 0 then f_X4_trim_L0 p0_limbs n (p0_size - (1 : Int32)) else some p0_size else none
def f_X4_trim (p0_limbs : (Nat → Int64)) (p0_size : Int32) : Option (Int32) := f_X4_trim_L0 p0_limbs FU p0_size
def f_X4_take (p1 : Int64) (p0_size : Int32) (p0_limbs : (Nat → Int64)) : Option (Int32 × (Nat → Int64)) := (f_X4_trim (vp_updL (vp_updL p0_limbs 0 (p1 &&& (4294967295 : Int64))) 1 (lus p1 (32 : Int32))) (2 : Int32)).bind fun u1 => some (u1, vp_updL (vp_updL p0_limbs 0 (p1 &&& (4294967295 : Int64))) 1 (lus p1 (32 : Int32)))
