theorem wb_tb (n : Nat) : (lN n).toBitVec = BitVec.ofNat 64 n := rfl
theorem wb_inj {a b : Int64} (h : a.toBitVec = b.toBitVec) : a = b := Int64.toBitVec_inj.mp h
theorem wb_tn {n : Nat} (h : n < 2 ^ 64) : (lN n).toBitVec.toNat = n := by rw [wb_tb, BitVec.toNat_ofNat, Nat.mod_eq_of_lt h]
theorem wb_of (x : Int64) : ∃ n, n < 2 ^ 64 ∧ x = lN n := ⟨x.toBitVec.toNat, x.toBitVec.isLt, wb_inj (by rw [wb_tb]; simp)⟩
theorem wb_of32 (x : Int32) : ∃ n, n < 2 ^ 32 ∧ x = nI n := ⟨x.toBitVec.toNat, x.toBitVec.isLt, Int32.toBitVec_inj.mp (by show _ = BitVec.ofNat 32 _; simp)⟩
theorem wb_c : ∀ k, k < 64 → ((nI k).toInt64 &&& 63) = lN k := by decide +kernel
theorem wb_cu : ∀ k, k < 64 → ((nI k).toInt64.toUInt64 &&& Int64.toUInt64 63) = UInt64.ofNat k := by decide +kernel
theorem wb_sm : ∀ k, k < 64 → (BitVec.ofNat 64 k).smod 64 = BitVec.ofNat 64 k := by decide +kernel
theorem wb_pw {a b : Nat} (h : a ≤ b) : 2 ^ b = 2 ^ a * 2 ^ (b - a) := by rw [← Nat.pow_add]; congr 1; omega
theorem wb_lt2 {a b : Nat} (h : a < b) : 2 ^ a < 2 ^ b := Nat.pow_lt_pow_right (by decide) h
theorem wb_mod (n : Nat) : lN n = lN (n % 2 ^ 64) := wb_inj (by rw [wb_tb, wb_tb]; apply BitVec.eq_of_toNat_eq; rw [BitVec.toNat_ofNat, BitVec.toNat_ofNat, Nat.mod_mod])
theorem wb_shr {n k : Nat} (hn : n < 2 ^ 64) (hk : k < 64) : ((lN n).toUInt64 >>> ((nI k).toInt64.toUInt64 &&& Int64.toUInt64 63)).toInt64 = lN (n / 2 ^ k) := by
  rw [wb_cu k hk]
  apply wb_inj
  apply BitVec.eq_of_toNat_eq
  show ((lN n).toUInt64 >>> UInt64.ofNat k).toNat = (BitVec.ofNat 64 _).toNat
  have h1 : (UInt64.ofNat k).toNat = k := by
    show (BitVec.ofNat 64 k).toNat = k
    rw [BitVec.toNat_ofNat, Nat.mod_eq_of_lt (by omega)]
  have h2 : (lN n).toUInt64.toNat = n := wb_tn hn
  rw [UInt64.toNat_shiftRight, h1, h2, Nat.mod_eq_of_lt hk, Nat.shiftRight_eq_div_pow, BitVec.toNat_ofNat, Nat.mod_eq_of_lt (Nat.lt_of_le_of_lt (Nat.div_le_self _ _) hn)]
theorem wb_shl (n : Nat) {k : Nat} (hk : k < 64) : lN n <<< ((nI k).toInt64 &&& 63) = lN (n * 2 ^ k) := by
  rw [wb_c k hk]
  apply wb_inj
  rw [Int64.toBitVec_shiftLeft, wb_tb, wb_tb, wb_tb, wb_sm k hk]
  apply BitVec.eq_of_toNat_eq
  rw [BitVec.shiftLeft_eq', BitVec.toNat_shiftLeft, BitVec.toNat_ofNat, BitVec.toNat_ofNat, BitVec.toNat_ofNat, Nat.mod_eq_of_lt (show k < 2 ^ 64 by omega), Nat.shiftLeft_eq, Nat.mul_mod, Nat.mod_mod, ← Nat.mul_mod]
theorem wb_and {a b : Nat} (ha : a < 2 ^ 64) (hb : b < 2 ^ 64) : lN a &&& lN b = lN (a &&& b) := by
  apply wb_inj
  rw [Int64.toBitVec_and, wb_tb, wb_tb, wb_tb]
  apply BitVec.eq_of_toNat_eq
  rw [BitVec.toNat_and, BitVec.toNat_ofNat, BitVec.toNat_ofNat, BitVec.toNat_ofNat, Nat.mod_eq_of_lt ha, Nat.mod_eq_of_lt hb, Nat.mod_eq_of_lt (Nat.and_lt_two_pow _ hb)]
theorem wb_or {a b : Nat} (ha : a < 2 ^ 64) (hb : b < 2 ^ 64) : lN a ||| lN b = lN (a ||| b) := by
  apply wb_inj
  rw [Int64.toBitVec_or, wb_tb, wb_tb, wb_tb]
  apply BitVec.eq_of_toNat_eq
  rw [BitVec.toNat_or, BitVec.toNat_ofNat, BitVec.toNat_ofNat, BitVec.toNat_ofNat, Nat.mod_eq_of_lt ha, Nat.mod_eq_of_lt hb, Nat.mod_eq_of_lt (Nat.or_lt_two_pow ha hb)]
theorem wb_mask {n k : Nat} (hn : n < 2 ^ 64) (hk : k < 64) : lN n &&& lN (2 ^ k - 1) = lN (n % 2 ^ k) := by
  rw [wb_and hn (by have := wb_lt2 hk; omega), Nat.and_two_pow_sub_one_eq_mod]
theorem wb_a1 {n : Nat} (hn : n < 2 ^ 64) : lN n &&& 1 = lN (n % 2) := wb_mask (k := 1) hn (by decide)
theorem wb_bit {n k : Nat} (hn : n < 2 ^ 64) (hk : k < 64) : ((lN n).toUInt64 >>> ((nI k).toInt64.toUInt64 &&& Int64.toUInt64 63)).toInt64 &&& 1 = lN (n / 2 ^ k % 2) := by
  rw [wb_shr hn hk, wb_a1 (Nat.lt_of_le_of_lt (Nat.div_le_self _ _) hn)]
theorem u_tn {n : Nat} (h : n < 2 ^ 64) : (UInt64.ofNat n).toNat = n := Nat.mod_eq_of_lt h
theorem g_and {a b c : Nat} (ha : a < 2 ^ 64) (hb : b < 2 ^ 64) (hc : a &&& b = c) : lN a &&& lN b = lN c := by
  subst hc
  have h : UInt64.ofNat a &&& UInt64.ofNat b = UInt64.ofNat (a &&& b) := UInt64.toNat_inj.mp (by rw [UInt64.toNat_and, u_tn ha, u_tn hb, u_tn (Nat.and_lt_two_pow a hb)])
  have h2 := congrArg UInt64.toInt64 h
  exact h2
theorem g_and1 {a : Nat} (ha : a < 2 ^ 64) : lN a &&& 1 = lN (a % 2) := g_and (b := 1) ha (by decide) (Nat.and_two_pow_sub_one_eq_mod a 1)
theorem g_mask {a s p : Nat} (hp : 2 ^ s = p) (hs : s < 64) (ha : a < 2 ^ 64) : lN a &&& lN (p - 1) = lN (a % p) := by
  subst hp
  have := Nat.pow_lt_pow_right (show 1 < 2 by decide) hs
  exact g_and ha (by omega) (Nat.and_two_pow_sub_one_eq_mod a s)
theorem g_or {k p a b : Nat} (hp : 2 ^ k = p) (ha : a < p) (h : b * p + a < 2 ^ 64) : lN (b * p) ||| lN a = lN (b * p + a) := by
  subst hp
  have h1 : b * 2 ^ k ||| a = b * 2 ^ k + a := by rw [← Nat.shiftLeft_eq, Nat.shiftLeft_add_eq_or_of_lt ha]
  have h3 : UInt64.ofNat (b * 2 ^ k) ||| UInt64.ofNat a = UInt64.ofNat (b * 2 ^ k + a) := UInt64.toNat_inj.mp (by rw [UInt64.toNat_or, u_tn (by omega), u_tn (by omega), u_tn h, h1])
  have h2 := congrArg UInt64.toInt64 h3
  exact h2
theorem g_or' {k p a b : Nat} (hp : 2 ^ k = p) (ha : a < p) (h : a + b * p < 2 ^ 64) : lN a ||| lN (b * p) = lN (a + b * p) := by
  rw [Int64.or_comm, g_or hp ha (by omega), Nat.add_comm]
theorem g_ushr {a k p : Nat} {y : UInt64} (hy : y = UInt64.ofNat k) (hk : k < 64) (hp : 2 ^ k = p) (ha : a < 2 ^ 64) : ((lN a).toUInt64 >>> y).toInt64 = lN (a / p) := by
  subst hy hp
  have h : UInt64.ofNat a >>> UInt64.ofNat k = UInt64.ofNat (a / 2 ^ k) := UInt64.toNat_inj.mp (by rw [UInt64.toNat_shiftRight, u_tn ha, u_tn (by omega), u_tn (Nat.lt_of_le_of_lt (Nat.div_le_self _ _) ha), Nat.mod_eq_of_lt hk, Nat.shiftRight_eq_div_pow])
  have h2 := congrArg UInt64.toInt64 h
  exact h2
theorem g_shl {a k p : Nat} {y : Int64} (hy : y.toBitVec.smod 64 = BitVec.ofNat 64 k) (hk : k < 64) (hp : 2 ^ k = p) (ha : a < 2 ^ 64) : lN a <<< y = lN (a * p) := by
  subst hp
  apply Int64.toBitVec_inj.mp
  rw [Int64.toBitVec_shiftLeft, hy]
  apply BitVec.eq_of_toNat_eq
  have hb : (lN a).toBitVec.toNat = a := Nat.mod_eq_of_lt ha
  have hk' : (BitVec.ofNat 64 k).toNat = k := Nat.mod_eq_of_lt (by omega)
  have h : ((lN a).toBitVec <<< BitVec.ofNat 64 k).toNat = (a * 2 ^ k) % 2 ^ 64 := by simp only [BitVec.shiftLeft_eq', BitVec.toNat_shiftLeft, hb, hk', Nat.shiftLeft_eq]
  exact h
/-! Pure rows: numbers, loops, names. Nothing of the machine stands here. -/
def pu_r (k : Nat) : Int32 := nI k - 1
theorem pu_r0 : pu_r 0 = -1 := by decide
theorem pu_rs (k : Nat) : pu_r (k + 1) = nI k := nI_pred k
theorem pu_rneg {k : Nat} (h : k < 2 ^ 31) : pu_r k < 0 ↔ k = 0 := by
  cases k with
  | zero => exact ⟨fun _ => rfl, fun _ => by rw [pu_r0]; decide⟩
  | succ j =>
    rw [pu_rs]
    exact ⟨fun q => absurd q (nI_pos (by omega)), fun q => by omega⟩
theorem pu_rpos {k : Nat} (h : k < 2 ^ 31) : 0 ≤ pu_r k ↔ k ≠ 0 := by
  cases k with
  | zero => exact ⟨fun q => absurd q (by rw [pu_r0]; decide), fun q => absurd rfl q⟩
  | succ j =>
    rw [pu_rs]
    exact ⟨fun _ => by omega, fun _ => nI_pos' (by omega)⟩
theorem pu_req {a b : Nat} (ha : a < 2 ^ 31) (hb : b < 2 ^ 31) : pu_r a = pu_r b ↔ a = b := by
  cases a with
  | zero =>
    cases b with
    | zero => exact ⟨fun _ => rfl, fun _ => rfl⟩
    | succ j =>
      refine ⟨fun q => ?_, fun q => by omega⟩
      rw [pu_r0, pu_rs] at q
      have h := nI_pos (n := j) (by omega)
      rw [← q] at h
      exact absurd (by decide) h
  | succ i =>
    cases b with
    | zero =>
      refine ⟨fun q => ?_, fun q => by omega⟩
      rw [pu_r0, pu_rs] at q
      have h := nI_pos (n := i) (by omega)
      rw [q] at h
      exact absurd (by decide) h
    | succ j =>
      rw [pu_rs, pu_rs, nI_eq (by omega) (by omega)]
      omega
theorem pu_g {i n : Nat} (h : i < n) (hn : n < 2 ^ 31) : jv_ig (nI i) n = true := jv_ni (vp_in_nI h hn)
theorem pu_lp {σ ρ : Type} (f : (σ → Option ρ) → σ → Option ρ) (st : Nat → σ) (e : Nat) (r : Option ρ) (hs : ∀ i, i < e → ∀ k, f k (st i) = k (st (i + 1))) (he : ∀ k, f k (st e) = r) : ∀ (d i N : Nat), i + d = e → d < N → jv_lp f N (st i) = r := by
  intro d
  induction d with
  | zero =>
    intro i N hi hN
    cases N with
    | zero => omega
    | succ N => rw [jv_ls, show i = e by omega, he]
  | succ d ih =>
    intro i N hi hN
    cases N with
    | zero => omega
    | succ N => rw [jv_ls, hs i (by omega), ih (i + 1) N (by omega) (by omega)]
/-- how many places below n are so -/
def pu_c (p : Nat → Bool) : Nat → Nat
  | 0 => 0
  | n + 1 => pu_c p n + (if p n = true then 1 else 0)
theorem pu_c_le (p : Nat → Bool) (n : Nat) : pu_c p n ≤ n := by
  induction n with
  | zero => exact Nat.le_refl 0
  | succ n ih =>
    show pu_c p n + (if p n = true then 1 else 0) ≤ n + 1
    by_cases h : p n = true
    · rw [if_pos h]; omega
    · rw [if_neg h]; omega
theorem pu_c_ext {p q : Nat → Bool} {n : Nat} (h : ∀ k, k < n → p k = q k) : pu_c p n = pu_c q n := by
  induction n with
  | zero => rfl
  | succ n ih =>
    show pu_c p n + (if p n = true then 1 else 0) = pu_c q n + (if q n = true then 1 else 0)
    rw [ih (fun k hk => h k (by omega)), h n (by omega)]
/-- is one of the places below n so -/
def pu_a (p : Nat → Bool) : Nat → Bool
  | 0 => false
  | n + 1 => pu_a p n || p n
theorem pu_a_iff (p : Nat → Bool) (n : Nat) : pu_a p n = true ↔ ∃ k, k < n ∧ p k = true := by
  induction n with
  | zero => exact ⟨fun h => (by cases h), fun ⟨k, h, _⟩ => (by omega)⟩
  | succ n ih =>
    show (pu_a p n || p n) = true ↔ _
    rw [Bool.or_eq_true, ih]
    constructor
    · rintro (⟨k, h1, h2⟩ | h)
      · exact ⟨k, by omega, h2⟩
      · exact ⟨n, by omega, h⟩
    · rintro ⟨k, h1, h2⟩
      by_cases e : k = n
      · exact Or.inr (e ▸ h2)
      · exact Or.inl ⟨k, by omega, h2⟩
/-- a name as a number: seven bits a letter, the first lowest -/
def pu_k : List Nat → Nat
  | [] => 0
  | c :: l => c + 128 * pu_k l
def pu_ok (l : List Nat) : Prop := l.length ≤ 6 ∧ ∀ c, c ∈ l → 32 ≤ c ∧ c ≤ 126
theorem pu_k_lt (l : List Nat) (h : ∀ c, c ∈ l → c ≤ 126) : pu_k l < 2 ^ (7 * l.length) := by
  induction l with
  | nil => exact Nat.one_pos
  | cons c l ih =>
    have h1 := h c List.mem_cons_self
    have h2 := ih (fun d hd => h d (List.mem_cons_of_mem _ hd))
    show c + 128 * pu_k l < 2 ^ (7 * (l.length + 1))
    rw [Nat.mul_add, Nat.pow_add]
    omega
theorem pu_k_lt42 {l : List Nat} (h : pu_ok l) : pu_k l < 2 ^ 42 := by
  have h1 := pu_k_lt l (fun c hc => (h.2 c hc).2)
  have h2 : 2 ^ (7 * l.length) ≤ 2 ^ 42 := Nat.pow_le_pow_right (by decide) (by have := h.1; omega)
  omega
theorem pu_k_at (l : List Nat) (h : ∀ c, c ∈ l → c ≤ 126) (i : Nat) : pu_k l / 2 ^ (7 * i) % 128 = l.getD i 0 := by
  induction l generalizing i with
  | nil => simp [pu_k]
  | cons c l ih =>
    have h1 := h c List.mem_cons_self
    have h2 := fun d hd => h d (List.mem_cons_of_mem c hd)
    cases i with
    | zero =>
      show (c + 128 * pu_k l) / 2 ^ 0 % 128 = c
      omega
    | succ i =>
      show (c + 128 * pu_k l) / 2 ^ (7 * (i + 1)) % 128 = l.getD i 0
      rw [← ih h2 i, Nat.mul_add, Nat.add_comm (7 * i), Nat.pow_add, ← Nat.div_div_eq_div_mul]
      congr 2
      omega
theorem pu_k_snoc (l : List Nat) (c : Nat) : pu_k (l ++ [c]) = pu_k l + c * 2 ^ (7 * l.length) := by
  induction l with
  | nil => simp [pu_k]
  | cons d l ih =>
    show d + 128 * pu_k (l ++ [c]) = d + 128 * pu_k l + c * 2 ^ (7 * (l.length + 1))
    rw [ih, Nat.mul_add 7, Nat.pow_add, Nat.mul_add]
    have : c * (2 ^ (7 * l.length) * 2 ^ (7 * 1)) = 128 * (c * 2 ^ (7 * l.length)) := by
      rw [show (2 : Nat) ^ (7 * 1) = 128 from rfl, ← Nat.mul_assoc, Nat.mul_comm]
    omega
theorem pu_k_inj {l m : List Nat} (hl : pu_ok l) (hm : pu_ok m) (h : pu_k l = pu_k m) : l = m := by
  apply List.ext_getElem?
  intro i
  have e1 := pu_k_at l (fun c hc => (hl.2 c hc).2) i
  have e2 := pu_k_at m (fun c hc => (hm.2 c hc).2) i
  rw [h, e2] at e1
  rw [List.getD_eq_getElem?_getD, List.getD_eq_getElem?_getD] at e1
  cases h1 : l[i]? with
  | none =>
    cases h2 : m[i]? with
    | none => rfl
    | some d =>
      have := (hm.2 d (List.mem_of_getElem? h2)).1
      rw [h1, h2] at e1
      simp at e1
      omega
  | some c =>
    have hc := (hl.2 c (List.mem_of_getElem? h1)).1
    cases h2 : m[i]? with
    | none =>
      rw [h1, h2] at e1
      simp at e1
      omega
    | some d =>
      rw [h1, h2] at e1
      simp at e1
      rw [e1]
