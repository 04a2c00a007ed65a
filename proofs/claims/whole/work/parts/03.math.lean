/-! numbers in digits of a base B -/
def dg (B v i : Nat) : Nat := v / B ^ i % B
theorem dg_lt {B : Nat} (hB : 0 < B) (v i : Nat) : dg B v i < B := Nat.mod_lt _ hB
theorem dg_zero (B i : Nat) : dg B 0 i = 0 := by simp [dg]
theorem dm_uniq {n B q r : Nat} (h : n = B * q + r) (hr : r < B) : n / B = q ∧ n % B = r := by
  have hB : 0 < B := by omega
  subst h
  exact ⟨by rw [Nat.mul_add_div hB, Nat.div_eq_of_lt hr, Nat.add_zero], by rw [Nat.mul_add_mod, Nat.mod_eq_of_lt hr]⟩
theorem dg_low (B v i : Nat) : v % B ^ (i + 1) = v % B ^ i + B ^ i * dg B v i := Nat.mod_pow_succ
theorem dg_top (B v i : Nat) : v / B ^ i = B * (v / B ^ (i + 1)) + dg B v i := by
  rw [Nat.pow_succ, ← Nat.div_div_eq_div_mul]
  exact (Nat.div_add_mod (v / B ^ i) B).symm
theorem dg_small {B v : Nat} (h : v < B) (i : Nat) : dg B v i = if i = 0 then v else 0 := by
  unfold dg
  by_cases hi : i = 0
  · subst hi
    simp [Nat.mod_eq_of_lt h]
  · rw [if_neg hi]
    have h1 : B ^ 1 ≤ B ^ i := Nat.pow_le_pow_right (by omega) (by omega)
    rw [Nat.pow_one] at h1
    rw [Nat.div_eq_of_lt (by omega)]
    exact Nat.zero_mod B
/-- two numbers times two factors, added up: the carry ahead of place i -/
def car (B v f w g i : Nat) : Nat := (v % B ^ i * f + w % B ^ i * g) / B ^ i
theorem car_0 (B v f w g : Nat) : car B v f w g 0 = 0 := by simp [car, Nat.mod_one]
theorem car_sum {B : Nat} (hB : 0 < B) (v f w g i : Nat) : dg B v i * f + dg B w i * g + car B v f w g i = (v % B ^ (i + 1) * f + w % B ^ (i + 1) * g) / B ^ i := by
  have hP : 0 < B ^ i := Nat.pow_pos hB
  rw [dg_low, dg_low, car]
  have e : (v % B ^ i + B ^ i * dg B v i) * f + (w % B ^ i + B ^ i * dg B w i) * g = (v % B ^ i * f + w % B ^ i * g) + B ^ i * (dg B v i * f + dg B w i * g) := by
    rw [Nat.add_mul, Nat.add_mul, Nat.mul_add, Nat.mul_assoc, Nat.mul_assoc]; omega
  rw [e, Nat.add_mul_div_left _ _ hP]; omega
theorem car_step {B : Nat} (hB : 0 < B) (v f w g i : Nat) : (dg B v i * f + dg B w i * g + car B v f w g i) / B = car B v f w g (i + 1) := by
  rw [car_sum hB, Nat.div_div_eq_div_mul, ← Nat.pow_succ]; rfl
theorem car_dig {B : Nat} (hB : 0 < B) (v f w g i : Nat) : (dg B v i * f + dg B w i * g + car B v f w g i) % B = dg B (v * f + w * g) i := by
  have hP : 0 < B ^ i := Nat.pow_pos hB
  rw [car_sum hB]
  unfold dg
  have e : v * f + w * g = (v % B ^ (i + 1) * f + w % B ^ (i + 1) * g) + B ^ i * (B * (v / B ^ (i + 1) * f + w / B ^ (i + 1) * g)) := by
    have a : v * f = v % B ^ (i + 1) * f + B ^ (i + 1) * (v / B ^ (i + 1) * f) := by
      rw [← Nat.mul_assoc, ← Nat.add_mul, Nat.mod_add_div]
    have b : w * g = w % B ^ (i + 1) * g + B ^ (i + 1) * (w / B ^ (i + 1) * g) := by
      rw [← Nat.mul_assoc, ← Nat.add_mul, Nat.mod_add_div]
    rw [← Nat.mul_assoc, show B ^ i * B = B ^ (i + 1) from rfl, Nat.mul_add]; omega
  have e2 : (v * f + w * g) / B ^ i = (v % B ^ (i + 1) * f + w % B ^ (i + 1) * g) / B ^ i + B * (v / B ^ (i + 1) * f + w / B ^ (i + 1) * g) := by
    refine Eq.trans (congrArg (fun z => z / B ^ i) e) ?_
    exact Nat.add_mul_div_left _ _ hP
  rw [e2, Nat.add_mul_mod_self_left]
theorem car_le {B : Nat} (hB : 0 < B) (v f w g i : Nat) : car B v f w g i ≤ f + g := by
  have hP : 0 < B ^ i := Nat.pow_pos hB
  have a : v % B ^ i * f ≤ B ^ i * f := Nat.mul_le_mul (Nat.le_of_lt (Nat.mod_lt _ hP)) (Nat.le_refl _)
  have b : w % B ^ i * g ≤ B ^ i * g := Nat.mul_le_mul (Nat.le_of_lt (Nat.mod_lt _ hP)) (Nat.le_refl _)
  refine Nat.div_le_of_le_mul ?_
  rw [Nat.mul_add]; omega
theorem car_1 {B : Nat} (hB : 0 < B) (v w i : Nat) : car B v 1 w 1 i ≤ 1 := by
  have hP : 0 < B ^ i := Nat.pow_pos hB
  have a := Nat.mod_lt v hP
  have b := Nat.mod_lt w hP
  have c : (v % B ^ i * 1 + w % B ^ i * 1) / B ^ i < 2 := Nat.div_lt_of_lt_mul (by omega)
  exact Nat.le_of_lt_succ c
/-- one number times a factor -/
theorem mul_step {B : Nat} (hB : 0 < B) (v f i : Nat) : (dg B v i * f + car B v f 0 0 i) / B = car B v f 0 0 (i + 1) := by
  have h := car_step hB v f 0 0 i
  rw [Nat.mul_zero, Nat.add_zero] at h
  exact h
theorem mul_dig {B : Nat} (hB : 0 < B) (v f i : Nat) : (dg B v i * f + car B v f 0 0 i) % B = dg B (v * f) i := by
  have h := car_dig hB v f 0 0 i
  rw [Nat.mul_zero, Nat.add_zero, Nat.zero_mul, Nat.add_zero] at h
  exact h
/-- two numbers added up -/
theorem add_step {B : Nat} (hB : 0 < B) (v w i : Nat) : (dg B v i + dg B w i + car B v 1 w 1 i) / B = car B v 1 w 1 (i + 1) := by
  have h := car_step hB v 1 w 1 i
  rw [Nat.mul_one, Nat.mul_one] at h
  exact h
theorem add_dig {B : Nat} (hB : 0 < B) (v w i : Nat) : (dg B v i + dg B w i + car B v 1 w 1 i) % B = dg B (v + w) i := by
  have h := car_dig hB v 1 w 1 i
  rw [Nat.mul_one, Nat.mul_one, Nat.mul_one, Nat.mul_one] at h
  exact h
/-- the borrow ahead of place i -/
def bor (B v w i : Nat) : Nat := if v % B ^ i < w % B ^ i then 1 else 0
theorem bor_0 (B v w : Nat) : bor B v w 0 = 0 := by simp [bor, Nat.mod_one]
theorem bor_le (B v w i : Nat) : bor B v w i ≤ 1 := by unfold bor; split <;> omega
theorem bor_step {B : Nat} (hB : 0 < B) (v w i : Nat) : bor B v w (i + 1) = if dg B w i + bor B v w i ≤ dg B v i then 0 else 1 := by
  have hP : 0 < B ^ i := Nat.pow_pos hB
  have a := Nat.mod_lt v hP
  have b := Nat.mod_lt w hP
  unfold bor
  rw [dg_low, dg_low]
  generalize v % B ^ i = r at a ⊢
  generalize w % B ^ i = t at b ⊢
  generalize dg B v i = x
  generalize dg B w i = y
  generalize B ^ i = P at hP a b ⊢
  rcases Nat.lt_trichotomy x y with h | h | h
  · have h1 : P * (x + 1) ≤ P * y := Nat.mul_le_mul (Nat.le_refl _) h
    rw [Nat.mul_add] at h1
    rw [if_pos (by omega), if_neg (by omega)]
  · subst h
    by_cases h2 : r < t
    · rw [if_pos (by omega), if_pos h2, if_neg (by omega)]
    · rw [if_neg (by omega), if_neg h2, if_pos (by omega)]
  · have h1 : P * (y + 1) ≤ P * x := Nat.mul_le_mul (Nat.le_refl _) h
    rw [Nat.mul_add] at h1
    rw [if_neg (by omega), if_pos (by split <;> omega)]
theorem bor_div {B : Nat} (hB : 0 < B) {v w : Nat} (h : w ≤ v) (i : Nat) : w / B ^ i + bor B v w i ≤ v / B ^ i ∧ (v - w) / B ^ i = v / B ^ i - w / B ^ i - bor B v w i := by
  have hP : 0 < B ^ i := Nat.pow_pos hB
  have a := Nat.mod_lt v hP
  have b := Nat.mod_lt w hP
  have ev := Nat.div_add_mod v (B ^ i)
  have ew := Nat.div_add_mod w (B ^ i)
  unfold bor
  generalize v % B ^ i = r at a ev ⊢
  generalize w % B ^ i = t at b ew ⊢
  generalize v / B ^ i = V at ev ⊢
  generalize w / B ^ i = U at ew ⊢
  generalize B ^ i = P at hP a b ev ew ⊢
  subst ev; subst ew
  have hUV : U ≤ V := by
    rcases Nat.lt_or_ge V U with q | q
    · have h1 : P * (V + 1) ≤ P * U := Nat.mul_le_mul (Nat.le_refl _) q
      rw [Nat.mul_add] at h1
      omega
    · exact q
  by_cases hrt : r < t
  · rw [if_pos hrt]
    have h2 : U < V := by
      rcases Nat.lt_or_ge U V with q | q
      · exact q
      · have : U = V := by omega
        subst this
        omega
    obtain ⟨d, rfl⟩ : ∃ d, V = U + 1 + d := ⟨V - U - 1, by omega⟩
    refine ⟨by omega, ?_⟩
    have e : P * (U + 1 + d) + r - (P * U + t) = P * d + (P + r - t) := by
      rw [Nat.mul_add, Nat.mul_add]; omega
    rw [e, (dm_uniq (n := P * d + (P + r - t)) rfl (by omega)).1]
    omega
  · rw [if_neg hrt]
    obtain ⟨d, rfl⟩ : ∃ d, V = U + d := ⟨V - U, by omega⟩
    refine ⟨by omega, ?_⟩
    have e : P * (U + d) + r - (P * U + t) = P * d + (r - t) := by
      rw [Nat.mul_add]; omega
    rw [e, (dm_uniq (n := P * d + (r - t)) rfl (by omega)).1]
    omega
theorem sub_dig {B : Nat} (hB : 0 < B) {v w : Nat} (h : w ≤ v) (i : Nat) : dg B (v - w) i = if dg B w i + bor B v w i ≤ dg B v i then dg B v i - dg B w i - bor B v w i else B + dg B v i - dg B w i - bor B v w i := by
  obtain ⟨h1, h2⟩ := bor_div hB h i
  have tv := dg_top B v i
  have tw := dg_top B w i
  have lv := dg_lt hB v i
  have lw := dg_lt hB w i
  have hb := bor_le B v w i
  show (v - w) / B ^ i % B = _
  rw [h2]
  generalize v / B ^ i = V at h1 tv ⊢
  generalize w / B ^ i = U at h1 tw ⊢
  generalize bor B v w i = z at h1 hb ⊢
  generalize dg B v i = x at tv lv ⊢
  generalize dg B w i = y at tw lw ⊢
  generalize v / B ^ (i + 1) = V1 at tv
  generalize w / B ^ (i + 1) = U1 at tw
  subst tv; subst tw
  by_cases hc : y + z ≤ x
  · rw [if_pos hc]
    have h3 : U1 ≤ V1 := by
      rcases Nat.lt_or_ge V1 U1 with q | q
      · have h4 : B * (V1 + 1) ≤ B * U1 := Nat.mul_le_mul (Nat.le_refl _) q
        rw [Nat.mul_add] at h4
        omega
      · exact q
    obtain ⟨d, rfl⟩ : ∃ d, V1 = U1 + d := ⟨V1 - U1, by omega⟩
    have e : B * (U1 + d) + x - (B * U1 + y) - z = B * d + (x - y - z) := by
      rw [Nat.mul_add]; omega
    rw [e, (dm_uniq (n := B * d + (x - y - z)) rfl (by omega)).2]
  · rw [if_neg hc]
    have h3 : U1 < V1 := by
      rcases Nat.lt_or_ge U1 V1 with q | q
      · exact q
      · have h4 : B * V1 ≤ B * U1 := Nat.mul_le_mul (Nat.le_refl _) q
        omega
    obtain ⟨d, rfl⟩ : ∃ d, V1 = U1 + 1 + d := ⟨V1 - U1 - 1, by omega⟩
    have e : B * (U1 + 1 + d) + x - (B * U1 + y) - z = B * d + (B + x - y - z) := by
      rw [Nat.mul_add, Nat.mul_add]; omega
    rw [e, (dm_uniq (n := B * d + (B + x - y - z)) rfl (by omega)).2]
/-- division by a small number, from the top -/
theorem div_dig {B d : Nat} (hB : 0 < B) (hd : 0 < d) (v i : Nat) : (v / B ^ (i + 1) % d * B + dg B v i) / d = dg B (v / d) i ∧ (v / B ^ (i + 1) % d * B + dg B v i) % d = v / B ^ i % d := by
  have tv := dg_top B v i
  have lv := dg_lt hB v i
  have e1 : dg B (v / d) i = v / B ^ i / d % B := by
    unfold dg
    rw [Nat.div_div_eq_div_mul, Nat.div_div_eq_div_mul, Nat.mul_comm d]
  rw [e1, tv]
  generalize dg B v i = x at lv ⊢
  generalize v / B ^ (i + 1) = u
  have hu := Nat.div_add_mod u d
  have hr := Nat.mod_lt u hd
  generalize u % d = r at hu hr ⊢
  generalize u / d = q at hu
  subst hu
  have e2 : B * (d * q + r) + x = d * (B * q) + (r * B + x) := by
    rw [Nat.mul_add, Nat.mul_left_comm, Nat.mul_comm B r]; omega
  have h1 : r * B + x < B * d := by
    have : (r + 1) * B ≤ d * B := Nat.mul_le_mul hr (Nat.le_refl _)
    rw [Nat.add_mul, Nat.mul_comm d B] at this
    omega
  have h2 : (r * B + x) / d < B := Nat.div_lt_of_lt_mul (by rw [Nat.mul_comm d B]; exact h1)
  rw [e2, Nat.mul_add_div hd, Nat.mul_add_mod, Nat.mul_add_mod, Nat.mod_eq_of_lt h2]
  exact ⟨rfl, rfl⟩
/-- comparing from the top -/
theorem cmp_dig {B v w i : Nat} (h : v / B ^ (i + 1) = w / B ^ (i + 1)) : (dg B v i = dg B w i → v / B ^ i = w / B ^ i) ∧ (dg B w i < dg B v i → w < v) ∧ (dg B v i < dg B w i → v < w) := by
  have tv := dg_top B v i
  have tw := dg_top B w i
  rw [← h] at tw
  refine ⟨fun e => by rw [tv, tw, e], fun e => ?_, fun e => ?_⟩
  · refine Nat.not_le.mp (fun q => ?_)
    have := Nat.div_le_div_right (c := B ^ i) q
    omega
  · refine Nat.not_le.mp (fun q => ?_)
    have := Nat.div_le_div_right (c := B ^ i) q
    omega
theorem cmp_end {B v w : Nat} (h : v / B ^ 0 = w / B ^ 0) : v = w := by simpa using h
theorem cmp_start {B n v w : Nat} (hv : v < B ^ n) (hw : w < B ^ n) : v / B ^ n = w / B ^ n := by rw [Nat.div_eq_of_lt hv, Nat.div_eq_of_lt hw]
/-! choices -/
def ch : Nat → Nat → Nat
  | _, 0 => 1
  | 0, _ + 1 => 0
  | n + 1, k + 1 => ch n k + ch n (k + 1)
theorem ch_0 (n : Nat) : ch n 0 = 1 := by cases n <;> rfl
theorem ch_s (n k : Nat) : ch (n + 1) (k + 1) = ch n k + ch n (k + 1) := rfl
theorem ch_gt : ∀ (n k : Nat), n < k → ch n k = 0
  | _, 0, h => absurd h (Nat.not_lt_zero _)
  | 0, _ + 1, _ => rfl
  | n + 1, k + 1, h => by rw [ch_s, ch_gt n k (by omega), ch_gt n (k + 1) (by omega)]
theorem ch_self : ∀ n : Nat, ch n n = 1
  | 0 => rfl
  | n + 1 => by rw [ch_s, ch_self n, ch_gt n (n + 1) (by omega)]
theorem ch_pos : ∀ (n k : Nat), k ≤ n → 0 < ch n k
  | n, 0, _ => by rw [ch_0]; omega
  | 0, _ + 1, h => by omega
  | n + 1, k + 1, h => by
    have := ch_pos n k (by omega)
    rw [ch_s]; omega
theorem ch_le : ∀ (n k : Nat), ch n k ≤ 2 ^ n
  | n, 0 => by rw [ch_0]; exact Nat.one_le_two_pow
  | 0, _ + 1 => Nat.zero_le _
  | n + 1, k + 1 => by
    have a := ch_le n k
    have b := ch_le n (k + 1)
    rw [ch_s, Nat.pow_succ]; omega
theorem ch_step : ∀ (n k : Nat), ch n (k + 1) * (k + 1) = ch n k * (n - k)
  | 0, 0 => rfl
  | 0, k + 1 => by rw [ch_gt 0 (k + 1 + 1) (by omega), ch_gt 0 (k + 1) (by omega)]; omega
  | n + 1, 0 => by
    have a := ch_step n 0
    rw [ch_0, Nat.sub_zero] at a ⊢
    rw [ch_s, ch_0, Nat.add_mul]
    omega
  | n + 1, k + 1 => by
    have a := ch_step n k
    have b := ch_step n (k + 1)
    have e1 : n + 1 - (k + 1) = n - k := by omega
    rw [ch_s, ch_s, Nat.add_mul, Nat.add_mul, e1, b, ← a]
    rcases Nat.lt_or_ge k n with h | h
    · have e2 : n - k = (n - (k + 1)) + 1 := by omega
      rw [e2, Nat.mul_add, Nat.mul_add (ch n (k + 1)) (n - (k + 1)) 1]
      omega
    · rw [ch_gt n (k + 1) (by omega)]
      omega
theorem ch_abs (n k : Nat) : ch (n + 1) (k + 1) * (k + 1) = ch n k * (n + 1) := by
  have a := ch_step n k
  rw [ch_s, Nat.add_mul, a]
  rcases Nat.lt_or_ge n k with h | h
  · rw [ch_gt n k h]; omega
  · rw [← Nat.mul_add]
    congr 1
    omega
theorem ch_sym2 : ∀ (n a b : Nat), a + b = n → ch n a = ch n b
  | n, 0, b, h => by
    obtain rfl : b = n := by omega
    rw [ch_0, ch_self]
  | n, a + 1, 0, h => by
    obtain rfl : a + 1 = n := by omega
    rw [ch_0, ch_self]
  | 0, a + 1, b + 1, h => by omega
  | n + 1, a + 1, b + 1, h => by
    rw [ch_s, ch_s, ch_sym2 n a (b + 1) (by omega), ch_sym2 n (a + 1) b (by omega)]
    omega
def psum (f : Nat → Nat) : Nat → Nat
  | 0 => 0
  | n + 1 => psum f n + f n
theorem psum_front (f : Nat → Nat) : ∀ n : Nat, psum f (n + 1) = f 0 + psum (fun k => f (k + 1)) n
  | 0 => by simp [psum]
  | n + 1 => by
    show psum f (n + 1) + f (n + 1) = f 0 + (psum (fun k => f (k + 1)) n + f (n + 1))
    rw [psum_front f n]; omega
theorem psum_add (f g : Nat → Nat) : ∀ n : Nat, psum (fun k => f k + g k) n = psum f n + psum g n
  | 0 => rfl
  | n + 1 => by
    show psum (fun k => f k + g k) n + (f n + g n) = (psum f n + f n) + (psum g n + g n)
    rw [psum_add f g n]; omega
theorem psum_congr {f g : Nat → Nat} : ∀ n : Nat, (∀ k, k < n → f k = g k) → psum f n = psum g n
  | 0, _ => rfl
  | n + 1, h => by
    show psum f n + f n = psum g n + g n
    rw [psum_congr n (fun k hk => h k (by omega)), h n (by omega)]
theorem psum_le {f g : Nat → Nat} : ∀ n : Nat, (∀ k, k < n → f k ≤ g k) → psum f n ≤ psum g n
  | 0, _ => Nat.le_refl _
  | n + 1, h => by
    have a := psum_le n (fun k hk => h k (by omega))
    have b := h n (by omega)
    show psum f n + f n ≤ psum g n + g n
    omega
theorem psum_mono (f : Nat → Nat) (n : Nat) : ∀ k : Nat, psum f n ≤ psum f (n + k)
  | 0 => Nat.le_refl _
  | k + 1 => Nat.le_trans (psum_mono f n k) (Nat.le_add_right _ _)
theorem psum_mul (c : Nat) (f : Nat → Nat) : ∀ n : Nat, psum (fun k => c * f k) n = c * psum f n
  | 0 => rfl
  | n + 1 => by
    show psum (fun k => c * f k) n + c * f n = c * (psum f n + f n)
    rw [psum_mul c f n, Nat.mul_add]
theorem psum_zero {f : Nat → Nat} {n : Nat} : ∀ k : Nat, (∀ j, n ≤ j → j < n + k → f j = 0) → psum f (n + k) = psum f n
  | 0, _ => rfl
  | k + 1, h => by
    show psum f (n + k) + f (n + k) = psum f n
    rw [psum_zero k (fun j h1 h2 => h j h1 (by omega)), h (n + k) (by omega) (by omega)]; omega
/-- how many samples of s have k of the b wrong ones -/
def hyp (b g s k : Nat) : Nat := if k ≤ s then ch b k * ch g (s - k) else 0
theorem hyp_sum (b g : Nat) : ∀ s : Nat, psum (hyp b g s) (s + 1) = ch (b + g) s := by
  induction b with
  | zero =>
    intro s
    rw [psum_front, psum_congr (g := fun _ => 0) s (fun k hk => by
      show hyp 0 g s (k + 1) = 0
      unfold hyp
      rw [if_pos (by omega), ch_gt 0 (k + 1) (by omega), Nat.zero_mul])]
    have z : psum (fun _ => 0) s = 0 := by
      have := psum_zero (f := fun _ => 0) (n := 0) s (fun _ _ _ => rfl)
      rw [Nat.zero_add] at this
      exact this
    rw [z]
    unfold hyp
    rw [if_pos (by omega), ch_0, Nat.sub_zero, Nat.zero_add]
    omega
  | succ b ih =>
    intro s
    cases s with
    | zero => simp [psum, hyp, ch_0]
    | succ s =>
      have h1 := ih s
      have h2 := ih (s + 1)
      rw [psum_front] at h2 ⊢
      have e : psum (fun k => hyp (b + 1) g (s + 1) (k + 1)) (s + 1) = psum (hyp b g s) (s + 1) + psum (fun k => hyp b g (s + 1) (k + 1)) (s + 1) := by
        rw [← psum_add]
        refine psum_congr _ (fun k hk => ?_)
        show hyp (b + 1) g (s + 1) (k + 1) = hyp b g s k + hyp b g (s + 1) (k + 1)
        unfold hyp
        rw [if_pos (by omega), if_pos (by omega), if_pos (by omega), ch_s, Nat.add_mul, show s + 1 - (k + 1) = s - k by omega]
      rw [e, h1]
      have e0 : hyp (b + 1) g (s + 1) 0 = hyp b g (s + 1) 0 := by simp [hyp, ch_0]
      rw [e0]
      have e2 : b + 1 + g = (b + g) + 1 := by omega
      rw [e2, ch_s, ← h2]
      omega
theorem hyp_lo {b g s k : Nat} (h : k + g < s) : hyp b g s k = 0 := by
  unfold hyp
  split
  · rw [ch_gt g (s - k) (by omega), Nat.mul_zero]
  · rfl
theorem hyp_hi {b g s k : Nat} (h : b < k) : hyp b g s k = 0 := by
  unfold hyp
  split
  · rw [ch_gt b k h, Nat.zero_mul]
  · rfl
theorem hyp_le {b g s k : Nat} : hyp b g s k ≤ ch (b + g) s := by
  rcases Nat.lt_or_ge s k with h | h
  · unfold hyp
    rw [if_neg (by omega)]; omega
  · rw [← hyp_sum]
    have h1 : psum (hyp b g s) (k + 1) ≤ psum (hyp b g s) ((k + 1) + (s - k)) := psum_mono _ _ _
    rw [show (k + 1) + (s - k) = s + 1 by omega] at h1
    refine Nat.le_trans ?_ h1
    show hyp b g s k ≤ psum (hyp b g s) k + hyp b g s k
    omega
/-- from k to k + 1, as it is counted: the division has no rest -/
theorem hyp_next {b g s k : Nat} (hk : k ≤ s) (hkb : k ≤ b) (hg : s ≤ k + g) : hyp b g s k * ((b - k) * (s - k)) / ((k + 1) * (g + k + 1 - s)) = hyp b g s (k + 1) := by
  unfold hyp
  rw [if_pos hk]
  rcases Nat.eq_or_lt_of_le hk with h | h
  · subst h
    rw [Nat.sub_self, Nat.mul_zero, Nat.mul_zero, Nat.zero_div, if_neg (by omega)]
  · rw [if_pos (by omega)]
    obtain ⟨j, rfl⟩ : ∃ j, s = k + 1 + j := ⟨s - k - 1, by omega⟩
    have a := ch_step b k
    have c := ch_step g j
    rw [show k + 1 + j - k = j + 1 by omega, show k + 1 + j - (k + 1) = j by omega, show g + k + 1 - (k + 1 + j) = g - j by omega]
    have e : ch b k * ch g (j + 1) * ((b - k) * (j + 1)) = (ch b (k + 1) * ch g j) * ((k + 1) * (g - j)) := by
      have e1 : ch b k * ch g (j + 1) * ((b - k) * (j + 1)) = (ch b k * (b - k)) * (ch g (j + 1) * (j + 1)) := by
        simp only [Nat.mul_comm, Nat.mul_left_comm, Nat.mul_assoc]
      rw [e1, ← a, c]
      simp only [Nat.mul_comm, Nat.mul_left_comm, Nat.mul_assoc]
    rw [e]
    exact Nat.mul_div_cancel _ (Nat.mul_pos (by omega) (by omega))
def fac : Nat → Nat
  | 0 => 1
  | n + 1 => (n + 1) * fac n
theorem fac_pos : ∀ n : Nat, 0 < fac n
  | 0 => Nat.one_pos
  | n + 1 => Nat.mul_pos (by omega) (fac_pos n)
theorem fac_le (n : Nat) : ∀ k : Nat, fac n ≤ fac (n + k)
  | 0 => Nat.le_refl _
  | k + 1 => Nat.le_trans (fac_le n k) (by
      show fac (n + k) ≤ (n + k + 1) * fac (n + k)
      exact Nat.le_mul_of_pos_left _ (by omega))
theorem ff_le : ∀ (n i : Nat), fac i * ch n i ≤ fac n
  | n, 0 => by rw [ch_0]; show 1 * 1 ≤ fac n; exact fac_pos n
  | 0, i + 1 => by rw [ch_gt 0 (i + 1) (by omega)]; omega
  | n + 1, i + 1 => by
    have h := ff_le n i
    have e : fac (i + 1) * ch (n + 1) (i + 1) = (n + 1) * (fac i * ch n i) := by
      have a := ch_abs n i
      show (i + 1) * fac i * ch (n + 1) (i + 1) = _
      have e1 : (i + 1) * fac i * ch (n + 1) (i + 1) = fac i * (ch (n + 1) (i + 1) * (i + 1)) := by
        simp only [Nat.mul_comm, Nat.mul_left_comm, Nat.mul_assoc]
      rw [e1, a]
      simp only [Nat.mul_comm, Nat.mul_left_comm, Nat.mul_assoc]
    rw [e]
    exact Nat.mul_le_mul (Nat.le_refl _) h
theorem ff_next (n i : Nat) : fac i * ch n i * (n - i) = fac (i + 1) * ch n (i + 1) := by
  have a := ch_step n i
  show _ = (i + 1) * fac i * ch n (i + 1)
  rw [Nat.mul_assoc, ← a]
  simp only [Nat.mul_comm, Nat.mul_left_comm, Nat.mul_assoc]
/-- the ways in order: i draws, k of them wrong ones -/
def ord (b g i k : Nat) : Nat := if k ≤ i then fac i * (ch b k * ch g (i - k)) else 0
theorem ord_hyp (b g i k : Nat) : ord b g i k = fac i * hyp b g i k := by
  unfold ord hyp
  split <;> simp
theorem ord_le {b g i k : Nat} : ord b g i k ≤ fac (b + g) := by
  rw [ord_hyp]
  exact Nat.le_trans (Nat.mul_le_mul (Nat.le_refl _) hyp_le) (ff_le _ _)
theorem ord_first (b g : Nat) (k : Nat) : ord b g 0 k = if k = 0 then 1 else 0 := by
  unfold ord
  by_cases h : k = 0
  · subst h
    rw [if_pos (by omega), if_pos rfl, ch_0, Nat.sub_self, ch_0]; rfl
  · rw [if_neg (by omega), if_neg h]
theorem ord_zero (b g i : Nat) : ord b g i 0 * (g - i) = ord b g (i + 1) 0 := by
  unfold ord
  rw [if_pos (by omega), if_pos (by omega), ch_0, Nat.sub_zero, Nat.sub_zero, Nat.one_mul, Nat.one_mul]
  exact ff_next g i
/-- one more draw; own: the right ones that are left, mo: the wrong ones -/
theorem ord_next {b g i k own : Nat} (hk : k ≤ i) (ho : k + 1 ≤ i → own = g - (i - (k + 1))) : ord b g i (k + 1) * own + ord b g i k * (b - k) = ord b g (i + 1) (k + 1) := by
  unfold ord
  rw [if_pos hk, if_pos (show k + 1 ≤ i + 1 by omega)]
  have a := ch_step b k
  rcases Nat.eq_or_lt_of_le hk with h | h
  · subst h
    rw [if_neg (by omega), Nat.zero_mul, Nat.zero_add, Nat.sub_self, Nat.sub_self, ch_0, Nat.mul_one, Nat.mul_one, Nat.mul_assoc, ← a]
    show _ = (k + 1) * fac k * ch b (k + 1)
    simp only [Nat.mul_comm, Nat.mul_left_comm, Nat.mul_assoc]
  · rw [if_pos (by omega), ho (by omega)]
    obtain ⟨j, rfl⟩ : ∃ j, i = k + 1 + j := ⟨i - k - 1, by omega⟩
    have c := ch_step g j
    rw [show k + 1 + j - (k + 1) = j by omega, show k + 1 + j - k = j + 1 by omega, show k + 1 + j + 1 - (k + 1) = j + 1 by omega]
    have e1 : fac (k + 1 + j) * (ch b (k + 1) * ch g j) * (g - j) = fac (k + 1 + j) * ch b (k + 1) * (ch g j * (g - j)) := by
      simp only [Nat.mul_comm, Nat.mul_left_comm, Nat.mul_assoc]
    have e2 : fac (k + 1 + j) * (ch b k * ch g (j + 1)) * (b - k) = fac (k + 1 + j) * ch g (j + 1) * (ch b k * (b - k)) := by
      simp only [Nat.mul_comm, Nat.mul_left_comm, Nat.mul_assoc]
    rw [e1, e2, ← c, ← a]
    show _ = (k + 1 + j + 1) * fac (k + 1 + j) * (ch b (k + 1) * ch g (j + 1))
    have e3 : (k + 1 + j + 1) * fac (k + 1 + j) * (ch b (k + 1) * ch g (j + 1)) = fac (k + 1 + j) * ch b (k + 1) * ch g (j + 1) * ((j + 1) + (k + 1)) := by
      rw [show k + 1 + j + 1 = (j + 1) + (k + 1) by omega]
      simp only [Nat.mul_comm, Nat.mul_left_comm, Nat.mul_assoc]
    rw [e3, Nat.mul_add (fac (k + 1 + j) * ch b (k + 1) * ch g (j + 1)) (j + 1) (k + 1)]
    simp only [Nat.mul_comm, Nat.mul_left_comm, Nat.mul_assoc]
/-! the digits of a fraction a / A -/
def lf (a A : Nat) : Nat → Nat
  | 0 => a
  | i + 1 => lf a A i % A * 10
def tl (a A : Nat) : Nat → Nat
  | 0 => 0
  | i + 1 => tl a A i * 10 + lf a A i / A
theorem lf_mul (c a A : Nat) : ∀ i : Nat, lf (c * a) (c * A) i = c * lf a A i
  | 0 => rfl
  | i + 1 => by
    show lf (c * a) (c * A) i % (c * A) * 10 = c * (lf a A i % A * 10)
    rw [lf_mul c a A i, Nat.mul_mod_mul_left, Nat.mul_assoc]
theorem tl_mul {c : Nat} (hc : 0 < c) (a A : Nat) : ∀ i : Nat, tl (c * a) (c * A) i = tl a A i
  | 0 => rfl
  | i + 1 => by
    show tl (c * a) (c * A) i * 10 + lf (c * a) (c * A) i / (c * A) = tl a A i * 10 + lf a A i / A
    rw [lf_mul, tl_mul hc a A i, Nat.mul_div_mul_left _ _ hc]
theorem lf_lt {a A : Nat} (hA : 0 < A) (h : a ≤ A) : ∀ i : Nat, lf a A i < 10 * A
  | 0 => by show a < 10 * A; omega
  | i + 1 => by
    show lf a A i % A * 10 < 10 * A
    have := Nat.mod_lt (lf a A i) hA
    omega
