def allB (p : Nat → Bool) : Nat → Bool | 0 => true | n + 1 => allB p n && p n
theorem allB_iff {p : Nat → Bool} : ∀ {n : Nat}, allB p n = true ↔ ∀ i, i < n → p i = true
  | 0 => ⟨fun _ i hi => absurd hi (Nat.not_lt_zero i), fun _ => rfl⟩
  | n + 1 => by
    unfold allB
    rw [Bool.and_eq_true, allB_iff (n := n)]
    constructor
    · intro ⟨h1, h2⟩ i hi
      by_cases q : i = n
      · subst q; exact h2
      · exact h1 i (by omega)
    · intro h
      exact ⟨fun i hi => h i (by omega), h n (by omega)⟩
theorem allB_down {p : Nat → Bool} {n m : Nat} (h : n ≤ m) (e : allB p n = false) : allB p m = false := by
  cases hm : allB p m with
  | false => rfl
  | true =>
    have := allB_iff.mp hm
    rw [allB_iff.mpr (fun i hi => this i (by omega))] at e
    exact absurd e (by decide)
def exq (N : Nat → Nat) (F : Nat → Fn) (x t : Nat) : Bool := (N 2).testBit t || (PAS N F t (RUNP N F t) || decide (0 < MET N F t &&& x))
def exM (N : Nat → Nat) (F : Nat → Fn) (x : Nat) : Bool := allB (exq N F x) (N 3)
def rem_ (x k : Nat) : Nat := x &&& (1 * 2 ^ k ^^^ 4294967295)
def lsq (N : Nat → Nat) (F : Nat → Fn) (x k : Nat) : Bool := !(x.testBit k && exM N F (rem_ x k))
def lst (N : Nat → Nat) (F : Nat → Fn) (x : Nat) : Bool := exM N F x && allB (lsq N F x) (N 0)
theorem tb_one {x t : Nat} (h : x / 2 ^ t &&& 1 = 1) : x.testBit t = true := tb_pos (by omega)
theorem tb_none {x t : Nat} (h : ¬ x / 2 ^ t &&& 1 = 1) : x.testBit t = false := by
  rw [tb_div] at h
  cases hb : x.testBit t
  · rfl
  · rw [hb] at h; exact absurd rfl h
def w2 (w : Int64) : Nat → Int64 | 0 => w | k + 1 => w2 w k * 2
def pz (N : Nat → Nat) (F : Nat → Fn) (x t : Nat) : Bool := pP N F t && decide (MET N F t &&& x = 0)
def chW (N : Nat → Nat) (F : Nat → Fn) (x : Nat) : Int64 := w2 (wgt (F 27) x (min (N 0) 12)) (ct (pz N F x) (N 3))
theorem wgt_y {pr : Fn} {x l : Nat} (h : x.testBit l = true) : wgt pr x (l + 1) = wgt pr x l * (pr l).toInt64 := by rw [wgt, if_pos h]
theorem wgt_n {pr : Fn} {x l : Nat} (h : x.testBit l = false) : wgt pr x (l + 1) = wgt pr x l * (nI 10 - pr l).toInt64 := by rw [wgt, if_neg (by rw [h]; decide)]
def gM (N : Nat → Nat) (F : Nat → Fn) (x : Nat) : List Nat := if lst N F x = true then [x] else []
/-- rows of sets and their chances hold a list -/
def SLW (N : Nat → Nat) (F : Nat → Fn) (se : Fn) (L : Nat → Int64) (K : List Nat) : Prop := ∀ (i x : Nat), K[i]? = some x → se i = nI x ∧ L i = chW N F x
theorem SLW_nil {N : Nat → Nat} {F : Nat → Fn} {se : Fn} {L : Nat → Int64} : SLW N F se L [] := fun i x h => by simp at h
def addP (N : Nat → Nat) (F : Nat → Fn) (se : Fn) (L : Nat → Int64) (sm x : Nat) : Fn × (Nat → Int64) × Nat := if lst N F x = true then (upd se sm (nI x), vp_updL L sm (chW N F x), sm + 1) else (se, L, sm)
theorem SLW_add {N : Nat → Nat} {F : Nat → Fn} {se se1 : Fn} {L L1 : Nat → Int64} {K : List Nat} {sm sm1 x : Nat} (h : SLW N F se L K) (hz : sm = K.length) (e : (se1, L1, sm1) = addP N F se L sm x) : SLW N F se1 L1 (K ++ gM N F x) ∧ sm1 = (K ++ gM N F x).length := by
  unfold addP at e
  unfold gM
  by_cases hl : lst N F x = true
  · rw [if_pos hl] at e ⊢
    obtain ⟨rfl, rfl, rfl⟩ := e
    subst hz
    refine ⟨?_, by simp⟩
    intro i y hy
    by_cases hi : i = K.length
    · subst hi
      rw [List.getElem?_append_right (Nat.le_refl _), Nat.sub_self] at hy
      cases hy
      exact ⟨upd_s, by simp [vp_updL]⟩
    · have hlt : i < K.length := by
        have := (List.getElem?_eq_some_iff.mp hy).1
        rw [List.length_append] at this
        simp at this; omega
      rw [List.getElem?_append_left hlt] at hy
      obtain ⟨h1, h2⟩ := h i y hy
      exact ⟨by rw [upd_n hi]; exact h1, by simp [vp_updL, hi]; exact h2⟩
  · rw [if_neg hl] at e ⊢
    obtain ⟨rfl, rfl, rfl⟩ := e
    rw [List.append_nil]
    exact ⟨h, hz⟩
theorem gM_len (N : Nat → Nat) (F : Nat → Fn) (x : Nat) : (gM N F x).length ≤ 1 := by unfold gM; split <;> simp
def k1 (N : Nat → Nat) (F : Nat → Fn) (a : Nat) : List Nat := gM N F (1 * 2 ^ a)
def k2 (N : Nat → Nat) (F : Nat → Fn) (b a : Nat) : List Nat := gM N F (1 * 2 ^ a ||| 1 * 2 ^ b)
def k3 (N : Nat → Nat) (F : Nat → Fn) (c b a : Nat) : List Nat := gM N F ((1 * 2 ^ a ||| 1 * 2 ^ b) ||| 1 * 2 ^ c)
def K2 (N : Nat → Nat) (F : Nat → Fn) (b : Nat) : List Nat := fm (k2 N F b) b
def K3 (N : Nat → Nat) (F : Nat → Fn) (c : Nat) : List Nat := fm (fun b => fm (k3 N F c b) b) c
theorem fmg_len {g : Nat → List Nat} (h : ∀ k, (g k).length ≤ 1) (k : Nat) : (fm g k).length ≤ k := fm_len (b := fun _ => 1) h (fun k => k) (fun _ => Nat.le_refl _) k
theorem k1_len (N : Nat → Nat) (F : Nat → Fn) (k : Nat) : (fm (k1 N F) k).length ≤ k := fmg_len (fun a => gM_len N F _) k
theorem k2_len (N : Nat → Nat) (F : Nat → Fn) (b k : Nat) : (fm (k2 N F b) k).length ≤ k := fmg_len (fun a => gM_len N F _) k
theorem k3_len (N : Nat → Nat) (F : Nat → Fn) (c b k : Nat) : (fm (k3 N F c b) k).length ≤ k := fmg_len (fun a => gM_len N F _) k
theorem K2_len (N : Nat → Nat) (F : Nat → Fn) (k : Nat) : (fm (K2 N F) k).length ≤ tri k := fm_len (b := fun b => b) (fun b => k2_len N F b b) tri (fun _ => Nat.le_refl _) k
theorem K3b_len (N : Nat → Nat) (F : Nat → Fn) (c k : Nat) : (fm (fun b => fm (k3 N F c b) b) k).length ≤ tri k := fm_len (b := fun b => b) (fun b => k3_len N F c b b) tri (fun _ => Nat.le_refl _) k
theorem K3_len (N : Nat → Nat) (F : Nat → Fn) (k : Nat) : (fm (K3 N F) k).length ≤ tet k := fm_len (b := tri) (fun c => K3b_len N F c c) tet (fun _ => Nat.le_refl _) k
def KALL (N : Nat → Nat) (F : Nat → Fn) (n : Nat) : List Nat := fm (k1 N F) n ++ (fm (K2 N F) n ++ fm (K3 N F) n)
theorem tri_24 : tri 24 = 276 := by decide
theorem tet_24 : tet 24 = 2024 := by decide
theorem len1 {N : Nat → Nat} {F : Nat → Fn} {n a : Nat} (hn : n ≤ 24) (ha : a < n) : (fm (k1 N F) a).length < 2400 := by have := k1_len N F a; omega
theorem len2 {N : Nat → Nat} {F : Nat → Fn} {n b a : Nat} (hn : n ≤ 24) (hb : b < n) (ha : a < b) : ((fm (k1 N F) n ++ fm (K2 N F) b) ++ fm (k2 N F b) a).length < 2400 := by
  have h1 := k1_len N F n
  have h2 := K2_len N F b
  have h3 := k2_len N F b a
  have h4 := tri_mono (show b ≤ 24 by omega)
  rw [tri_24] at h4
  rw [List.length_append, List.length_append]; omega
theorem len3 {N : Nat → Nat} {F : Nat → Fn} {n c b a : Nat} (hn : n ≤ 24) (hc : c < n) (hb : b < c) (ha : a < b) : (((fm (k1 N F) n ++ fm (K2 N F) n) ++ fm (K3 N F) c) ++ fm (fun b => fm (k3 N F c b) b) b ++ fm (k3 N F c b) a).length < 2400 := by
  have h1 := k1_len N F n
  have h2 := K2_len N F n
  have h3 := K3_len N F c
  have h4 := K3b_len N F c b
  have h5 := k3_len N F c b a
  have h6 := tri_mono (show n ≤ 24 by omega)
  have h7 := tet_mono (show c + 1 ≤ 24 by omega)
  have h8 := tri_mono (show b + 1 ≤ c by omega)
  have e1 : tri (b + 1) = tri b + b := rfl
  have e2 : tet (c + 1) = tet c + tri c := rfl
  rw [tri_24] at h6
  rw [tet_24] at h7
  rw [List.length_append, List.length_append, List.length_append, List.length_append]; omega
