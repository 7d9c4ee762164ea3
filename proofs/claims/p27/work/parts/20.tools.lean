/-! numbers, loops, sums: nothing of the machine from here on -/
theorem zz_bm {n : Int} (h1 : -2147483648 ≤ n) (h2 : n < 2147483648) : n.bmod (2 ^ 32) = n := by
  have e : ((2 ^ 32 : Nat) : Int) = 4294967296 := rfl
  unfold Int.bmod
  simp only [e]
  split <;> omega
theorem zz_a {a b : Int32} (h1 : -2147483648 ≤ a.toInt + b.toInt) (h2 : a.toInt + b.toInt < 2147483648) : (a + b).toInt = a.toInt + b.toInt := by
  rw [Int32.toInt_add]; exact zz_bm h1 h2
theorem zz_s {a b : Int32} (h1 : -2147483648 ≤ a.toInt - b.toInt) (h2 : a.toInt - b.toInt < 2147483648) : (a - b).toInt = a.toInt - b.toInt := by
  rw [Int32.toInt_sub]; exact zz_bm h1 h2
theorem zz_m {a b : Int32} (h1 : -2147483648 ≤ a.toInt * b.toInt) (h2 : a.toInt * b.toInt < 2147483648) : (a * b).toInt = a.toInt * b.toInt := by
  rw [Int32.toInt_mul]; exact zz_bm h1 h2
theorem zz_e {a b : Int32} : a = b ↔ a.toInt = b.toInt := Int32.toInt_inj.symm
theorem zz_lt {a b : Int32} : a < b ↔ a.toInt < b.toInt := Int32.lt_iff_toInt_lt
theorem zz_le {a b : Int32} : a ≤ b ↔ a.toInt ≤ b.toInt := Int32.le_iff_toInt_le
theorem zz_r (a : Int32) : -2147483648 ≤ a.toInt ∧ a.toInt < 2147483648 := ⟨Int32.le_toInt a, Int32.toInt_lt a⟩
theorem zz_n {a : Int32} (h : 0 ≤ a.toInt) : a = nI a.toInt.toNat := by
  rw [zz_e, nI_toInt (by have := (zz_r a).2; omega)]
  omega
theorem zz_nn {a : Int32} {n : Nat} (h : a.toInt = n) : a = nI n := by
  rw [zz_e, nI_toInt (by have := (zz_r a).2; omega), h]
theorem zz_div {a b : Int32} (ha : 0 ≤ a.toInt) (hb : 0 < b.toInt) : (a / b).toInt = a.toInt / b.toInt := by
  have h1 := zz_n ha
  have h2 := zz_n (a := b) (by omega)
  have r1 := (zz_r a).2
  have r2 := (zz_r b).2
  have h3 : a / b = nI (a.toInt.toNat / b.toInt.toNat) := by
    conv => lhs; rw [h1, h2]
    exact pk_div (by omega) (by omega) (by omega)
  have h4 : a.toInt.toNat / b.toInt.toNat ≤ a.toInt.toNat := Nat.div_le_self _ _
  rw [h3, nI_toInt (by omega)]
  have e1 : a.toInt = (a.toInt.toNat : Int) := by omega
  have e2 : b.toInt = (b.toInt.toNat : Int) := by omega
  rw [e1, e2]
  simp
theorem zz_rem {a b : Int32} (ha : 0 ≤ a.toInt) (hb : 0 < b.toInt) : (a - a / b * b).toInt = a.toInt % b.toInt := by
  have h1 := zz_n ha
  have h2 := zz_n (a := b) (by omega)
  have r1 := (zz_r a).2
  have r2 := (zz_r b).2
  have h3 : a - a / b * b = nI (a.toInt.toNat % b.toInt.toNat) := by
    conv => lhs; rw [h1, h2]
    exact pk_rem (by omega) (by omega) (by omega)
  have h4 : a.toInt.toNat % b.toInt.toNat ≤ a.toInt.toNat := Nat.mod_le _ _
  rw [h3, nI_toInt (by omega)]
  have e1 : a.toInt = (a.toInt.toNat : Int) := by omega
  have e2 : b.toInt = (b.toInt.toNat : Int) := by omega
  rw [e1, e2]
  simp
theorem zz_dv {a b : Int32} (hb : 0 < b.toInt) : mm_dv a b = some (a / b) := by
  unfold mm_dv
  rw [if_neg]
  intro h
  rw [h] at hb
  exact absurd hb (by decide)
theorem zz_rm {a b : Int32} (hb : 0 < b.toInt) : mm_rm a b = some (a - a / b * b) := by
  unfold mm_rm
  rw [if_neg]
  intro h
  rw [h] at hb
  exact absurd hb (by decide)
theorem zz_mx (a b : Int32) : (mm_mx a b).toInt = max a.toInt b.toInt := by
  unfold mm_mx
  split
  · rename_i h; rw [zz_lt] at h; omega
  · rename_i h; rw [zz_lt] at h; omega
theorem zz_mn (a b : Int32) : (mm_mn a b).toInt = min a.toInt b.toInt := by
  unfold mm_mn
  split
  · rename_i h; rw [zz_lt] at h; omega
  · rename_i h; rw [zz_lt] at h; omega
theorem zz_ab {a : Int32} (h1 : -2147483648 < a.toInt) : (mm_ab a).toInt = a.toInt.natAbs := by
  have r := zz_r a
  unfold mm_ab
  split
  · rename_i h; rw [zz_le] at h
    rw [show (0 : Int32).toInt = 0 from rfl] at h
    omega
  · rename_i h; rw [zz_le] at h
    rw [show (0 : Int32).toInt = 0 from rfl] at h
    rw [zz_s (by rw [show (0 : Int32).toInt = 0 from rfl]; omega) (by rw [show (0 : Int32).toInt = 0 from rfl]; omega), show (0 : Int32).toInt = 0 from rfl]
    omega
theorem zz_cl (a : Int32) : a.toNatClampNeg = a.toInt.toNat := rfl
theorem zz_nI (n : Nat) (h : n < 2147483648) : (nI n).toInt = (n : Int) := nI_toInt h
theorem zz_bz0 : mm_bz 0 = some 0 := by decide
theorem zz_bz1 : mm_bz 1 = some 1 := by decide
-- loops
theorem it_for {σ ε : Type} {body : σ → Option (σ ⊕ ε)} (S : Nat → σ) (N : Nat) (e : ε) (hs : ∀ i, i < N → body (S i) = some (.inl (S (i + 1)))) (he : body (S N) = some (.inr e)) : ∀ fuel, N < fuel → mm_it body fuel (S 0) = some e := by
  have key : ∀ (d i fuel : Nat), i + d = N → d < fuel → mm_it body fuel (S i) = some e := by
    intro d
    induction d with
    | zero =>
      intro i fuel hi hf
      obtain ⟨n, rfl⟩ : ∃ n, fuel = n + 1 := ⟨fuel - 1, by omega⟩
      rw [show i = N by omega]
      simp [mm_it, he]
    | succ d ih =>
      intro i fuel hi hf
      obtain ⟨n, rfl⟩ : ∃ n, fuel = n + 1 := ⟨fuel - 1, by omega⟩
      simp only [mm_it, hs i (by omega)]
      exact ih (i + 1) n (by omega) (by omega)
  exact fun fuel h => key N 0 fuel (by omega) h
theorem it_inv {σ ε : Type} {body : σ → Option (σ ⊕ ε)} (I : Nat → σ → Prop) (E : ε → Prop) (N : Nat)
    (hs : ∀ i s, i < N → I i s → (∃ s', body s = some (.inl s') ∧ I (i + 1) s') ∨ (∃ e, body s = some (.inr e) ∧ E e)) (he : ∀ s, I N s → ∃ e, body s = some (.inr e) ∧ E e) :
    ∀ (s : σ) (fuel : Nat), N < fuel → I 0 s → ∃ e, mm_it body fuel s = some e ∧ E e := by
  have key : ∀ (d i fuel : Nat) (s : σ), i + d = N → d < fuel → I i s → ∃ e, mm_it body fuel s = some e ∧ E e := by
    intro d
    induction d with
    | zero =>
      intro i fuel s hi hf hI
      obtain ⟨n, rfl⟩ : ∃ n, fuel = n + 1 := ⟨fuel - 1, by omega⟩
      rw [show i = N by omega] at hI
      obtain ⟨e, h1, h2⟩ := he s hI
      exact ⟨e, by simp [mm_it, h1], h2⟩
    | succ d ih =>
      intro i fuel s hi hf hI
      obtain ⟨n, rfl⟩ : ∃ n, fuel = n + 1 := ⟨fuel - 1, by omega⟩
      rcases hs i s (by omega) hI with ⟨s', h1, h2⟩ | ⟨e, h1, h2⟩
      · obtain ⟨e, h3, h4⟩ := ih (i + 1) n s' (by omega) (by omega) h2
        exact ⟨e, by simp only [mm_it, h1]; exact h3, h4⟩
      · exact ⟨e, by simp [mm_it, h1], h2⟩
  exact fun s fuel h hI => key N 0 fuel s (by omega) h hI
-- sums and counts
def su (f : Nat → Int32) : Nat → Int32
  | 0 => 0
  | n + 1 => su f n + f n
theorem su_congr {f g : Nat → Int32} : ∀ {n : Nat}, (∀ i, i < n → f i = g i) → su f n = su g n
  | 0, _ => rfl
  | n + 1, h => by
    show su f n + f n = su g n + g n
    rw [su_congr (fun i hi => h i (by omega)), h n (by omega)]
theorem su_zero {f : Nat → Int32} : ∀ {n : Nat}, (∀ i, i < n → f i = 0) → su f n = 0
  | 0, _ => rfl
  | n + 1, h => by
    show su f n + f n = 0
    rw [su_zero (fun i hi => h i (by omega)), h n (by omega)]
    rfl
theorem su_add (f : Nat → Int32) (n : Nat) : ∀ m : Nat, su f (n + m) = su f n + su (fun i => f (n + i)) m
  | 0 => by show su f n = su f n + 0; rw [Int32.add_zero]
  | m + 1 => by
    show su f (n + m) + f (n + m) = su f n + (su (fun i => f (n + i)) m + f (n + m))
    rw [su_add f n m, Int32.add_assoc]
theorem su_cut {f : Nat → Int32} {n m : Nat} (h : n ≤ m) (hz : ∀ i, n ≤ i → i < m → f i = 0) : su f m = su f n := by
  obtain ⟨d, rfl⟩ : ∃ d, m = n + d := ⟨m - n, by omega⟩
  rw [su_add, su_zero (fun i hi => hz (n + i) (by omega) (by omega)), Int32.add_zero]
/-- a sum over a rectangle, row by row -/
theorem su_mul (f : Nat → Int32) (w : Nat) : ∀ h : Nat, su f (w * h) = su (fun y => su (fun x => f (x + w * y)) w) h
  | 0 => rfl
  | h + 1 => by
    show su f (w * (h + 1)) = su (fun y => su (fun x => f (x + w * y)) w) h + su (fun x => f (x + w * h)) w
    rw [Nat.mul_succ, su_add, su_mul f w h]
    congr 1
    exact su_congr (fun i _ => by rw [Nat.add_comm])
