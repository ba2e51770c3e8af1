/-! LAYER B. Numbers: every Int32 of the two programs as a natural number, or -1 -/
def iN (n : Nat) : Int32 := Int32.ofNat n
theorem iN_lit (n : Nat) : (no_index (OfNat.ofNat n) : Int32) = iN (OfNat.ofNat n) := rfl
theorem iN_toInt {a : Nat} (h : a < 2147483648) : (iN a).toInt = (a : Int) := Int32.toInt_ofNat_of_lt h
theorem iN_lt {a b : Nat} (ha : a < 2147483648) (hb : b < 2147483648) : iN a < iN b ↔ a < b := by
  rw [Int32.lt_iff_toInt_lt, iN_toInt ha, iN_toInt hb]
  omega
theorem iN_le {a b : Nat} (ha : a < 2147483648) (hb : b < 2147483648) : iN a ≤ iN b ↔ a ≤ b := by
  rw [Int32.le_iff_toInt_le, iN_toInt ha, iN_toInt hb]
  omega
theorem iN_eq {a b : Nat} (ha : a < 2147483648) (hb : b < 2147483648) : iN a = iN b ↔ a = b := by
  rw [← Int32.toInt_inj, iN_toInt ha, iN_toInt hb]
  omega
theorem iN_add (a b : Nat) : iN a + iN b = iN (a + b) := (Int32.ofNat_add a b).symm
theorem iN_mul (a b : Nat) : iN a * iN b = iN (a * b) := (Int32.ofNat_mul a b).symm
theorem iN_sub {a b : Nat} (h : b ≤ a) : iN a - iN b = iN (a - b) := by
  have e : iN a = iN (a - b) + iN b := by rw [iN_add, Nat.sub_add_cancel h]
  rw [e]
  exact Int32.add_sub_cancel _ _
theorem iN_clamp {a : Nat} (h : a < 2147483648) : (iN a).toNatClampNeg = a := by
  show (iN a).toInt.toNat = a
  rw [iN_toInt h]
  exact Int.toNat_natCast a
theorem iN_lt0 {a : Nat} (h : a < 2147483648) : ¬ iN a < 0 := by
  rw [show (0 : Int32) = iN 0 from rfl, iN_lt h (by omega)]
  omega
theorem iN_le0 {a : Nat} (h : a < 2147483648) : iN a ≤ 0 ↔ a = 0 := by
  rw [show (0 : Int32) = iN 0 from rfl, iN_le h (by omega)]
  omega
theorem iN_ge0 {a : Nat} (h : a < 2147483648) : 0 ≤ iN a := by
  rw [show (0 : Int32) = iN 0 from rfl, iN_le (by omega) h]
  omega
theorem iN_eq0 {a : Nat} (h : a < 2147483648) : iN a = 0 ↔ a = 0 := by
  rw [show (0 : Int32) = iN 0 from rfl, iN_eq h (by omega)]
theorem iN_m1 {a : Nat} (h : a < 2147483648) : ¬ iN a = -1 := by
  intro q
  have := congrArg Int32.toInt q
  rw [iN_toInt h, show ((-1 : Int32)).toInt = -1 from rfl] at this
  omega
theorem iN_m1' {a : Nat} (h : a < 2147483648) : ¬ (-1 : Int32) = iN a := fun q => iN_m1 h q.symm
theorem iN_m1lt {a : Nat} (h : a < 2147483648) : (-1 : Int32) < iN a := by
  rw [Int32.lt_iff_toInt_lt, iN_toInt h, show ((-1 : Int32)).toInt = -1 from rfl]
  omega
theorem iN_m1le {a : Nat} (h : a < 2147483648) : (-1 : Int32) ≤ iN a := by
  rw [Int32.le_iff_toInt_le, iN_toInt h, show ((-1 : Int32)).toInt = -1 from rfl]
  omega
theorem iN_lem1 {a : Nat} (h : a < 2147483648) : ¬ iN a ≤ (-1 : Int32) := by
  rw [Int32.le_iff_toInt_le, iN_toInt h, show ((-1 : Int32)).toInt = -1 from rfl]
  omega
theorem iN_ltm1 {a : Nat} (h : a < 2147483648) : ¬ iN a < (-1 : Int32) := by
  rw [Int32.lt_iff_toInt_lt, iN_toInt h, show ((-1 : Int32)).toInt = -1 from rfl]
  omega
theorem iN_in {a n : Nat} (h : a < 2147483648) : x_in (iN a) n ↔ a < n := by
  unfold x_in
  rw [iN_clamp h]
  constructor
  · intro q
    exact Nat.not_le.mp fun z => q (Or.inr z)
  · intro q z
    rcases z with z | z
    · exact iN_lt0 h z
    · omega
theorem iN_pred {a : Nat} (h : 0 < a) : iN a + (-1 : Int32) = iN (a - 1) := by
  have e : iN a = iN (a - 1) + iN 1 := by rw [iN_add, Nat.sub_add_cancel h]
  rw [e, Int32.add_assoc, show iN 1 + (-1 : Int32) = 0 from rfl, Int32.add_zero]
/-- a guard that holds -/
theorem x_gd {α : Type} {c : Prop} [Decidable c] {a b : α} (h : c) : (if c then a else b) = a := if_pos h
/-- booleans -/
def bi (p : Bool) : Int32 := if p then 1 else 0
theorem bi_t : bi true = 1 := rfl
theorem bi_f : bi false = 0 := rfl
theorem bi_eq0 (p : Bool) : bi p = 0 ↔ p = false := by cases p <;> decide
theorem bi_bit (p : Bool) : x_bit (bi p) := by cases p <;> decide
/-! characters -/
def k_dig (b : Nat) : Bool := decide (48 ≤ b) && decide (b ≤ 57)
def k_alpha (b : Nat) : Bool := (decide (65 ≤ b) && decide (b ≤ 90)) || (decide (97 ≤ b) && decide (b ≤ 122))
def k_tok (b : Nat) : Bool := k_alpha b || k_dig b || [33, 35, 36, 37, 38, 39, 42, 43, 45, 46, 94, 95, 96, 124, 126].contains b
def k_tgt (b : Nat) : Bool := k_alpha b || k_dig b || [33, 36, 38, 39, 40, 41, 42, 43, 44, 45, 46, 47, 58, 59, 61, 63, 64, 95, 126].contains b
def k_hst (b : Nat) : Bool := k_alpha b || k_dig b || [45, 46, 58].contains b
def k_shown (b : Nat) : Bool := b == 9 || (decide (31 < b) && b != 127)
def k_blank (b : Nat) : Bool := b == 32 || b == 9
def k_low (b : Nat) : Nat := if 65 ≤ b ∧ b ≤ 90 then b + 32 else b
/-- 16: no hexadecimal digit -/
def k_hex (b : Nat) : Nat := if k_dig b then b - 48 else if 97 ≤ k_low b ∧ k_low b ≤ 102 then k_low b - 87 else 16
def hx (v : Nat) : Int32 := if v < 16 then iN v else -1
set_option maxRecDepth 100000 in
theorem c_dig : ∀ b, b < 256 → x_Text_isDigit (iN b) = some (bi (k_dig b)) := by decide +kernel
set_option maxRecDepth 100000 in
theorem c_blank : ∀ b, b < 256 → x_Text_isBlank (iN b) = some (bi (k_blank b)) := by decide +kernel
set_option maxRecDepth 100000 in
theorem c_ctl : ∀ b, b < 256 → x_Text_isControl (iN b) = some (bi (!k_shown b)) := by decide +kernel
set_option maxRecDepth 100000 in
theorem c_low : ∀ b, b < 256 → x_Text_lower (iN b) = some (iN (k_low b)) := by decide +kernel
set_option maxRecDepth 100000 in
theorem c_hex : ∀ b, b < 256 → x_Text_hexDigit (iN b) = some (hx (k_hex b)) := by decide +kernel
set_option maxRecDepth 100000 in
theorem c_tok : ∀ b, b < 256 → x_Text_isLetterDigitOr (iN b) 1 = some (bi (k_tok b)) := by decide +kernel
set_option maxRecDepth 100000 in
theorem c_tgt : ∀ b, b < 256 → x_Text_isLetterDigitOr (iN b) 3 = some (bi (k_tgt b)) := by decide +kernel
set_option maxRecDepth 100000 in
theorem c_hst : ∀ b, b < 256 → x_Text_isLetterDigitOr (iN b) 6 = some (bi (k_hst b)) := by decide +kernel
set_option maxRecDepth 100000 in
theorem k_hex_le : ∀ b, b < 256 → k_hex b ≤ 16 := by decide +kernel
set_option maxRecDepth 100000 in
theorem k_low_lt : ∀ b, b < 256 → k_low b < 256 := by decide +kernel
set_option maxRecDepth 100000 in
theorem m_dig : ∀ b, b < 256 → x_Model_isDigit (iN b) = some (bi (k_dig b)) := by decide +kernel
set_option maxRecDepth 100000 in
theorem m_alpha : ∀ b, b < 256 → x_Model_isAlpha (iN b) = some (bi (k_alpha b)) := by decide +kernel
set_option maxRecDepth 100000 in
theorem m_small : ∀ b, b < 256 → x_Model_small (iN b) = some (iN (k_low b)) := by decide +kernel
set_option maxRecDepth 100000 in
theorem m_hex : ∀ b, b < 256 → x_Model_hexOf (iN b) = some (hx (k_hex b)) := by decide +kernel
set_option maxRecDepth 100000 in
theorem m_tok : ∀ b, b < 256 → x_Model_isTokenByte (iN b) = some (bi (k_tok b)) := by decide +kernel
set_option maxRecDepth 100000 in
theorem m_tgt : ∀ b, b < 256 → x_Model_isTargetByte (iN b) = some (bi (k_tgt b)) := by decide +kernel
set_option maxRecDepth 100000 in
theorem m_shown : ∀ b, b < 256 → x_Model_isShown (iN b) = some (bi (k_shown b)) := by decide +kernel
