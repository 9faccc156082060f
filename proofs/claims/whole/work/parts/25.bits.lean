/-! bits of small numbers -/
section ZBITS
theorem zi32_n {a : Nat} (ha : a < 2147483648) : (Int32.ofInt (a : Int)).toInt = (a : Int) := Int32.toInt_ofInt_of_le (by omega) (by omega)
theorem zi32_i {a : Int} (ha : zr32 a) : (Int32.ofInt a).toInt = a := by
  unfold zr32 at ha
  exact Int32.toInt_ofInt_of_le (by omega) (by omega)
theorem zbv_n {a : Nat} : (Int32.ofInt (a : Int)).toBitVec = BitVec.ofNat 32 a := by
  show BitVec.ofInt 32 (a : Int) = _
  exact BitVec.ofInt_natCast 32 a
theorem zbv_toInt {v : BitVec 32} (h : v.toNat < 2147483648) : v.toInt = (v.toNat : Int) := BitVec.toInt_eq_toNat_of_lt (by omega)
theorem zlt_and {a b : Nat} (ha : a < 2147483648) : a &&& b < 2147483648 := Nat.lt_of_le_of_lt Nat.and_le_left ha
theorem zand_n {a b : Nat} (ha : a < 2147483648) (hb : b < 2147483648) : (Int32.ofInt (a : Int) &&& Int32.ofInt (b : Int)).toInt = ((a &&& b : Nat) : Int) := by
  have h1 : (Int32.ofInt (a : Int) &&& Int32.ofInt (b : Int)).toInt = (BitVec.ofNat 32 a &&& BitVec.ofNat 32 b).toInt := by
    rw [← zbv_n, ← zbv_n]; rfl
  have h2 : (BitVec.ofNat 32 a &&& BitVec.ofNat 32 b).toNat = a &&& b := by
    rw [BitVec.toNat_and, BitVec.toNat_ofNat, BitVec.toNat_ofNat, Nat.mod_eq_of_lt (by omega), Nat.mod_eq_of_lt (by omega)]
  rw [h1, zbv_toInt (by rw [h2]; exact zlt_and ha), h2]
theorem zor_n {a b : Nat} (ha : a < 2147483648) (hb : b < 2147483648) : (Int32.ofInt (a : Int) ||| Int32.ofInt (b : Int)).toInt = ((a ||| b : Nat) : Int) := by
  have h1 : (Int32.ofInt (a : Int) ||| Int32.ofInt (b : Int)).toInt = (BitVec.ofNat 32 a ||| BitVec.ofNat 32 b).toInt := by
    rw [← zbv_n, ← zbv_n]; rfl
  have h2 : (BitVec.ofNat 32 a ||| BitVec.ofNat 32 b).toNat = a ||| b := by
    rw [BitVec.toNat_or, BitVec.toNat_ofNat, BitVec.toNat_ofNat, Nat.mod_eq_of_lt (by omega), Nat.mod_eq_of_lt (by omega)]
  have h3 : a ||| b < 2 ^ 31 := Nat.or_lt_two_pow (by omega) (by omega)
  rw [h1, zbv_toInt (by rw [h2]; exact h3), h2]
theorem zxor_n {a b : Nat} (ha : a < 2147483648) (hb : b < 2147483648) : (Int32.ofInt (a : Int) ^^^ Int32.ofInt (b : Int)).toInt = ((a ^^^ b : Nat) : Int) := by
  have h1 : (Int32.ofInt (a : Int) ^^^ Int32.ofInt (b : Int)).toInt = (BitVec.ofNat 32 a ^^^ BitVec.ofNat 32 b).toInt := by
    rw [← zbv_n, ← zbv_n]; rfl
  have h2 : (BitVec.ofNat 32 a ^^^ BitVec.ofNat 32 b).toNat = a ^^^ b := by
    rw [BitVec.toNat_xor, BitVec.toNat_ofNat, BitVec.toNat_ofNat, Nat.mod_eq_of_lt (by omega), Nat.mod_eq_of_lt (by omega)]
  have h3 : a ^^^ b < 2 ^ 31 := Nat.xor_lt_two_pow (by omega) (by omega)
  rw [h1, zbv_toInt (by rw [h2]; exact h3), h2]
theorem zsh1 : ∀ k : Nat, k < 31 → (Int32.ofInt 1 <<< (Int32.ofInt (k : Int) &&& 31)).toInt = ((2 ^ k : Nat) : Int) := by decide +kernel
theorem zshl1 {k : Nat} (h : k < 31) : (Int32.ofInt 1 <<< (Int32.ofInt (k : Int) &&& 31)).toInt = ((2 ^ k : Nat) : Int) := zsh1 k h
theorem zsha : ∀ k : Nat, k < 32 → ((Int32.ofInt (k : Int) &&& 31).toBitVec.smod 32).toNat = k := by decide +kernel
theorem zshr_n {x k : Nat} (hx : x < 2147483648) (h : k < 32) : (Int32.ofInt (x : Int) >>> (Int32.ofInt (k : Int) &&& 31)).toInt = ((x / 2 ^ k : Nat) : Int) := by
  have h1 : (Int32.ofInt (x : Int) >>> (Int32.ofInt (k : Int) &&& 31)).toInt = ((BitVec.ofNat 32 x).sshiftRight k).toInt := by
    show (BitVec.sshiftRight' (Int32.ofInt (x : Int)).toBitVec ((Int32.ofInt (k : Int) &&& 31).toBitVec.smod 32)).toInt = _
    unfold BitVec.sshiftRight'
    rw [zsha k h, zbv_n]
  rw [h1, BitVec.toInt_sshiftRight, zbv_toInt (by rw [BitVec.toNat_ofNat]; omega), BitVec.toNat_ofNat, Nat.mod_eq_of_lt (by omega), Int.shiftRight_eq_div_pow]
  exact (Int.natCast_ediv x (2 ^ k)).symm
/-- whether a set is of a table -/
def zhs (t : Int) (s : Nat) : Prop := t.toNat / 2 ^ s % 2 = 1
theorem zan1 (n : Nat) : n &&& 1 = n % 2 := Nat.and_one_is_mod n
end ZBITS
