/-- how many below n have p -/
def ct (p : Nat → Bool) : Nat → Nat | 0 => 0 | n + 1 => ct p n + (if p n = true then 1 else 0)
theorem ct_le (p : Nat → Bool) : ∀ n, ct p n ≤ n
  | 0 => Nat.le_refl 0
  | n + 1 => by have := ct_le p n; unfold ct; split <;> omega
theorem ct_cong {p q : Nat → Bool} : ∀ {n : Nat}, (∀ i, i < n → p i = q i) → ct p n = ct q n
  | 0, _ => rfl
  | n + 1, h => by unfold ct; rw [ct_cong (fun i hi => h i (by omega)), h n (by omega)]
def pc12 (b : Nat) : Nat := ct (fun i => b.testBit i) 12
theorem pc12_le (b : Nat) : pc12 b ≤ 12 := ct_le _ 12
def bc1 (x : Int32) : Int32 := x - ((x.toUInt32 >>> ((nI 1).toUInt32 &&& Int32.toUInt32 31)).toInt32 &&& 1431655765)
def bc2 (x : Int32) : Int32 := (x &&& 858993459) + ((x.toUInt32 >>> ((nI 2).toUInt32 &&& Int32.toUInt32 31)).toInt32 &&& 858993459)
def bc3 (x : Int32) : Int32 := (x + (x.toUInt32 >>> ((nI 4).toUInt32 &&& Int32.toUInt32 31)).toInt32) &&& 252645135
def bc4 (x : Int32) : Int32 := x + (x.toUInt32 >>> ((nI 8).toUInt32 &&& Int32.toUInt32 31)).toInt32
def bc5 (x : Int32) : Int32 := x + (x.toUInt32 >>> ((nI 16).toUInt32 &&& Int32.toUInt32 31)).toInt32
theorem bc_ok2 : ∀ i, i < 64 → ∀ j, j < 64 → bc5 (bc4 (bc3 (bc2 (bc1 (nI (64 * i + j)))))) &&& nI 63 = nI (pc12 (64 * i + j)) := by decide +kernel
theorem bc_ok (b : Nat) (h : b < 4096) : bc5 (bc4 (bc3 (bc2 (bc1 (nI b))))) &&& nI 63 = nI (pc12 b) := by
  have := bc_ok2 (b / 64) (by omega) (b % 64) (by omega)
  rwa [Nat.div_add_mod] at this
def cmpI (x y : Int32) : Int32 := if x < y then (-1) else if x = y then nI 0 else nI 1
def lAbs (x : Int64) : Int64 := if 0 < x then x else -x
/-- a score before it is reduced -/
def scU (k a b f p : Nat) : Nat × Nat := if k = 0 then (a, f + b) else if k = 1 then (a * a, f * (a + b)) else if p = 0 then (a, f) else (a * p, a * p + b * f)
def scH (q : Nat × Nat) : Nat × Nat := if q.2 = 0 then (0, 1) else q
/-- Euclid's step: the product of the two halves -/
theorem gstep {d r i : Nat} (h : d * r * 2 ^ i < 131072) (h0 : 0 < r) (hr : r ≤ d) : r * (d % r) * 2 ^ (i + 1) < 131072 ∧ d % r ≤ r ∧ Nat.gcd r (d % r) = Nat.gcd d r := by
  have hm : d % r < r := Nat.mod_lt _ h0
  have h2 : 2 * (d % r) ≤ d := by
    have h3 := Nat.div_add_mod d r
    have h4 : 1 ≤ d / r := Nat.div_pos hr h0
    have h5 : r * 1 ≤ r * (d / r) := Nat.mul_le_mul_left r h4
    omega
  refine ⟨?_, Nat.le_of_lt hm, ?_⟩
  · rw [Nat.pow_succ]
    have : r * (d % r) * (2 ^ i * 2) = r * (2 * (d % r)) * 2 ^ i := by
      rw [Nat.mul_comm (2 ^ i) 2, ← Nat.mul_assoc, Nat.mul_assoc r, Nat.mul_comm (d % r) 2]
    rw [this]
    refine Nat.lt_of_le_of_lt (Nat.mul_le_mul_right _ (Nat.mul_le_mul_left r h2)) ?_
    rw [Nat.mul_comm r d]; exact h
  · rw [Nat.gcd_comm r (d % r), Nat.gcd_comm d r, ← Nat.gcd_rec]
theorem gend {d r i : Nat} (h : d * r * 2 ^ i < 131072) (hi : 64 ≤ i) (hd : 0 < d) : r = 0 := by
  have h1 : (2 : Nat) ^ 64 ≤ 2 ^ i := Nat.pow_le_pow_right (by decide) hi
  rcases Nat.eq_zero_or_pos r with q | q
  · exact q
  · have h2 : 1 ≤ d * r := Nat.mul_pos hd q
    have h3 : 1 * 2 ^ 64 ≤ d * r * 2 ^ i := Nat.mul_le_mul h2 h1
    omega
theorem gstart {ab be : Nat} (h1 : be ≤ 300) (h2 : ab ≤ be) : be * ab * 2 ^ 0 < 131072 := by
  have : be * ab ≤ 300 * 300 := Nat.mul_le_mul h1 (by omega)
  simp; omega
/-- a row of lists, one behind another -/
def fm {α : Type} (g : Nat → List α) : Nat → List α | 0 => [] | k + 1 => fm g k ++ g k
theorem fm_len {α : Type} {g : Nat → List α} {b : Nat → Nat} (h : ∀ k, (g k).length ≤ b k) (s : Nat → Nat) (h0 : ∀ k, s k + b k ≤ s (k + 1)) : ∀ k, (fm g k).length ≤ s k
  | 0 => Nat.zero_le _
  | k + 1 => by
    have h1 := fm_len h s h0 k
    have h2 := h k
    have h3 := h0 k
    unfold fm
    rw [List.length_append]; omega
def tri : Nat → Nat | 0 => 0 | k + 1 => tri k + k
def tet : Nat → Nat | 0 => 0 | k + 1 => tet k + tri k
theorem tri_mono : ∀ {a b : Nat}, a ≤ b → tri a ≤ tri b
  | a, 0, h => by have : a = 0 := by omega
                  subst this; exact Nat.le_refl _
  | a, b + 1, h => by
    rcases Nat.lt_or_ge a (b + 1) with q | q
    · have := tri_mono (a := a) (b := b) (by omega); show tri a ≤ tri b + b; omega
    · have : a = b + 1 := by omega
      subst this; exact Nat.le_refl _
theorem tet_mono : ∀ {a b : Nat}, a ≤ b → tet a ≤ tet b
  | a, 0, h => by have : a = 0 := by omega
                  subst this; exact Nat.le_refl _
  | a, b + 1, h => by
    rcases Nat.lt_or_ge a (b + 1) with q | q
    · have := tet_mono (a := a) (b := b) (by omega); show tet a ≤ tet b + tri b; omega
    · have : a = b + 1 := by omega
      subst this; exact Nat.le_refl _
/-- two rows hold a list of pairs -/
def SL (se sm : Fn) (L : List (Nat × Nat)) : Prop := ∀ (i : Nat) (q : Nat × Nat), L[i]? = some q → se i = nI q.1 ∧ sm i = nI q.2
theorem SL_nil {se sm : Fn} : SL se sm [] := fun i q h => by simp at h
theorem SL_push {se sm : Fn} {L : List (Nat × Nat)} {z x y : Nat} (hz : z = L.length) (h : SL se sm L) : SL (upd se z (nI x)) (upd sm z (nI y)) (L ++ [(x, y)]) := by
  subst hz
  intro i q hq
  unfold upd
  by_cases hi : i = L.length
  · subst hi
    rw [List.getElem?_append_right (Nat.le_refl _), Nat.sub_self] at hq
    cases hq
    simp
  · have hl : i < L.length := by
      have := (List.getElem?_eq_some_iff.mp hq).1
      rw [List.length_append] at this
      simp at this; omega
    rw [List.getElem?_append_left hl] at hq
    simp only [hi, if_false]
    exact h i q hq
/-- whether a set of tests has all that fail -/
def exN (x fa : Nat) : Bool := decide (x &&& fa = fa)
def gS (M : Nat → Nat) (fa c : Nat) : List (Nat × Nat) := if exN (M c) fa = true then [(2 ^ c, M c)] else []
def gP (M : Nat → Nat) (fa c b : Nat) : List (Nat × Nat) := if (exN (M b ||| M c) fa && (!exN (M b) fa && !exN (M c) fa)) = true then [(2 ^ b ||| 2 ^ c, M b ||| M c)] else []
def nPE (M : Nat → Nat) (fa a b c : Nat) : Bool := !exN (M a ||| M b) fa && (!exN (M a ||| M c) fa && !exN (M b ||| M c) fa)
def gT (M : Nat → Nat) (fa c b a : Nat) : List (Nat × Nat) := if (exN (M a ||| (M b ||| M c)) fa && nPE M fa a b c) = true then [(2 ^ a ||| 2 ^ b ||| 2 ^ c, M a ||| (M b ||| M c))] else []
theorem gS_len (M : Nat → Nat) (fa c : Nat) : (gS M fa c).length ≤ 1 := by unfold gS; split <;> simp
theorem gP_len (M : Nat → Nat) (fa c b : Nat) : (gP M fa c b).length ≤ 1 := by unfold gP; split <;> simp
theorem gT_len (M : Nat → Nat) (fa c b a : Nat) : (gT M fa c b a).length ≤ 1 := by unfold gT; split <;> simp
def sPs (M : Nat → Nat) (fa c : Nat) : List (Nat × Nat) := fm (gP M fa c) c
def sTs (M : Nat → Nat) (fa c : Nat) : List (Nat × Nat) := fm (fun b => fm (gT M fa c b) b) c
theorem fm1_len {g : Nat → List (Nat × Nat)} (h : ∀ k, (g k).length ≤ 1) (k : Nat) : (fm g k).length ≤ k := fm_len (b := fun _ => 1) h (fun k => k) (fun _ => Nat.le_refl _) k
theorem sPs_len (M : Nat → Nat) (fa c : Nat) : (sPs M fa c).length ≤ c := fm1_len (gP_len M fa c) c
theorem sT1_len (M : Nat → Nat) (fa c : Nat) (b : Nat) : (fm (fun b => fm (gT M fa c b) b) b).length ≤ tri b := fm_len (b := fun b => b) (fun b => fm1_len (gT_len M fa c b) b) tri (fun _ => Nat.le_refl _) b
theorem sTs_len (M : Nat → Nat) (fa c : Nat) : (sTs M fa c).length ≤ tri c := sT1_len M fa c c
theorem aS_len (M : Nat → Nat) (fa k : Nat) : (fm (gS M fa) k).length ≤ k := fm1_len (gS_len M fa) k
theorem aP_len (M : Nat → Nat) (fa k : Nat) : (fm (sPs M fa) k).length ≤ tri k := fm_len (b := fun b => b) (sPs_len M fa) tri (fun _ => Nat.le_refl _) k
theorem aT_len (M : Nat → Nat) (fa k : Nat) : (fm (sTs M fa) k).length ≤ tet k := fm_len (b := tri) (sTs_len M fa) tet (fun _ => Nat.le_refl _) k
/-- all sets in their order -/
def allS (M : Nat → Nat) (fa n : Nat) : List (Nat × Nat) := if fa = 0 then [] else fm (gS M fa) n ++ (fm (sPs M fa) n ++ fm (sTs M fa) n)
/-- a set's weight ahead of the tests -/
def wgt (pr : Fn) (x : Nat) : Nat → Int64 | 0 => 1 | l + 1 => wgt pr x l * (if x.testBit l = true then (pr l).toInt64 else (nI 10 - pr l).toInt64)
def wOf (pr : Fn) (ln pa x y : Nat) : Int64 := wgt pr x (min ln 12) <<< ((nI (pc12 (pa &&& (y ^^^ 4294967295)))).toInt64 &&& 63)
def sL (g : Nat → Int64) : Nat → Int64 | 0 => 0 | i + 1 => sL g i + g i
theorem sL_cong {f g : Nat → Int64} : ∀ {n : Nat}, (∀ i, i < n → f i = g i) → sL f n = sL g n
  | 0, _ => rfl
  | n + 1, h => by unfold sL; rw [sL_cong (fun i hi => h i (by omega)), h n (by omega)]
