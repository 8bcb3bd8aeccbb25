/-! the words of the pure functions -/
def vIn (i : Int32) (n : Nat) : Bool := decide (¬ (i < 0 ∨ n ≤ i.toNatClampNeg))
def vBl (v : Int32) : Bool := v == 0 || v == 1
def lsh (x : Int64) (y : Int32) : Int64 := x <<< (y.toInt64 &&& 63)
def lsr (x : Int64) (y : Int32) : Int64 := x >>> (y.toInt64 &&& 63)
def lus (x : Int64) (y : Int32) : Int64 := (x.toUInt64 >>> (y.toInt64.toUInt64 &&& Int64.toUInt64 63)).toInt64
def ish (x y : Int32) : Int32 := x <<< (y &&& 31)
def isr (x y : Int32) : Int32 := x >>> (y &&& 31)
def ius (x y : Int32) : Int32 := (x.toUInt32 >>> (y.toUInt32 &&& Int32.toUInt32 31)).toInt32
def irm (x y : Int32) : Int32 := x - x / y * y
def lrm (x y : Int64) : Int64 := x - x / y * y
def FU : Nat := 100000
abbrev strRow : Type := String × Nat × String × List Int32
def strTab : List strRow := [("FigurePress", 199, "places are 0 to 15", [112, 108, 97, 99, 101, 115, 32, 97, 114, 101, 32, 48, 32, 116, 111, 32, 49, 53]), ("FigurePress", 202, "formats are 0 and 1", [102, 111, 114, 109, 97, 116, 115, 32, 97, 114, 101, 32, 48, 32, 97, 110, 100, 32, 49]), ("FigurePress", 91, "what is told is 0 to 3", [119, 104, 97, 116, 32, 105, 115, 32, 116, 111, 108, 100, 32, 105, 115, 32, 48, 32, 116, 111, 32, 51]), ("FigurePress", 204, "ways are 0 to 3", [119, 97, 121, 115, 32, 97, 114, 101, 32, 48, 32, 116, 111, 32, 51]), ("FigurePress", 117, "no long", [110, 111, 32, 108, 111, 110, 103]), ("FigurePress", 159, "1 to 8 bytes, and 1200 in all", [49, 32, 116, 111, 32, 56, 32, 98, 121, 116, 101, 115, 44, 32, 97, 110, 100, 32, 49, 50, 48, 48, 32, 105, 110, 32, 97, 108, 108]), ("FigurePress$Text", 33, "inf", [105, 110, 102]), ("FigurePress$Text", 39, "nan", [110, 97, 110]), ("FigurePress", 206, "forms are 0 to 5", [102, 111, 114, 109, 115, 32, 97, 114, 101, 32, 48, 32, 116, 111, 32, 53]), ("FigurePress", 208, "too few or too many figures", [116, 111, 111, 32, 102, 101, 119, 32, 111, 114, 32, 116, 111, 111, 32, 109, 97, 110, 121, 32, 102, 105, 103, 117, 114, 101, 115]), ("FigurePress$Forms", 42, "nan", [110, 97, 110]), ("FigurePress$Forms", 56, "inf", [105, 110, 102]), ("FigurePress$Forms", 110, "0x0p0", [48, 120, 48, 112, 48]), ("FigurePress$Forms", 112, "0x1", [48, 120, 49]), ("FigurePressModel", 384, "nan", [110, 97, 110]), ("FigurePressModel", 386, "inf", [105, 110, 102]), ("FigurePressModel", 378, "0e0", [48, 101, 48]), ("FigurePressModel", 380, "0x0p0", [48, 120, 48, 112, 48]), ("FigurePressModel", 382, "e0", [101, 48]), ("FigurePressModel", 367, "0x1", [48, 120, 49])]
def sByt (t : Nat) : List Int32 := match strTab[t]? with
  | some q => q.2.2.2
  | none => []
def sLen (t : Nat) : Int32 := Int32.ofNat (sByt t).length
def sChr (t : Nat) (k : Int32) : Int32 := (((sByt t).getD k.toNatClampNeg 0 &&& 255).toUInt32 % 65536).toInt32
def kMin : Int64 := -9223372036854775808
def sm {α β γ : Type} (u : α ⊕ β) (f : α → γ) (g : β → γ) : γ := Sum.elim f g u
def exn : Nat → String
  | 1 => "java/lang/IndexOutOfBoundsException"
  | 2 => "java/lang/IllegalArgumentException"
  | _ => "java/lang/ArithmeticException"
