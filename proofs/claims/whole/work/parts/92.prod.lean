/-! ===== products, and Fermat's theorem ===== -/
def PR (f : Nat → Nat) : Nat → Nat
  | 0 => 1
  | k + 1 => PR f k * f k
theorem PR_cong {f g : Nat → Nat} : ∀ {n : Nat}, (∀ k, k < n → f k = g k) → PR f n = PR g n
  | 0, _ => rfl
  | n + 1, h => by
    show PR f n * f n = PR g n * g n
    rw [PR_cong (fun k hk => h k (by omega)), h n (by omega)]
theorem PR_upd (f : Nat → Nat) (v : Nat) {i : Nat} : ∀ {n : Nat}, i < n → PR (fun k => if k = i then v else f k) n * f i = PR f n * v
  | 0, h => absurd h (Nat.not_lt_zero i)
  | n + 1, h => by
    show PR (fun k => if k = i then v else f k) n * (if n = i then v else f n) * f i = PR f n * f n * v
    by_cases e : n = i
    · subst e
      rw [if_pos rfl, PR_cong (g := f) (fun k hk => if_neg (by omega))]
      rw [Nat.mul_assoc, Nat.mul_assoc, Nat.mul_comm v]
    · rw [if_neg e, Nat.mul_right_comm, PR_upd f v (show i < n by omega), Nat.mul_right_comm]
theorem PR_perm (f : Nat → Nat) : ∀ (n : Nat) (s : Nat → Nat), (∀ i, i < n → s i < n) → (∀ i j, i < j → j < n → s i ≠ s j) → PR (fun k => f (s k)) n = PR f n
  | 0, _, _, _ => rfl
  | n + 1, s, h1, h2 => by
    show PR (fun k => f (s k)) n * f (s n) = PR f n * f n
    by_cases e : s n = n
    · rw [e, PR_perm f n s (fun i hi => by have := h1 i (by omega); have := h2 i n hi (by omega); omega) (fun i j hij hj => h2 i j hij (by omega))]
    · obtain ⟨j, hj, ej⟩ := fb_onto h1 h2 (show n < n + 1 by omega)
      have hjn : j < n := by
        rcases Nat.lt_or_ge j n with h | h
        · exact h
        · exact absurd (show s n = n by rw [show n = j by omega, ej]; omega) e
      have h3 := PR_perm f n (fun k => if k = j then s n else s k) (fun i hi => by
        by_cases ei : i = j
        · rw [if_pos ei]; have := h1 n (by omega); omega
        · rw [if_neg ei]
          have := h1 i (by omega)
          have : s i ≠ s j := by
            rcases Nat.lt_or_ge i j with h | h
            · exact h2 i j h hj
            · exact fun q => h2 j i (by omega) (by omega) q.symm
          omega) (fun i k hik hk => by
        by_cases ei : i = j
        · rw [if_pos ei, if_neg (by omega)]
          exact fun q => h2 k n hk (by omega) q.symm
        · rw [if_neg ei]
          by_cases ek : k = j
          · rw [if_pos ek]; exact h2 i n (by omega) (by omega)
          · rw [if_neg ek]; exact h2 i k hik (by omega))
      have h4 := PR_upd (fun k => f (s k)) (f (s n)) hjn
      rw [ej] at h4
      rw [← h4, ← h3]
      congr 1
      apply PR_cong
      intro k _
      by_cases ek : k = j <;> simp [ek]
theorem PR_mul (c : Nat) (f : Nat → Nat) : ∀ n, PR (fun k => c * f k) n = c ^ n * PR f n
  | 0 => rfl
  | n + 1 => by
    show PR (fun k => c * f k) n * (c * f n) = c ^ (n + 1) * (PR f n * f n)
    rw [PR_mul c f n, Nat.pow_succ]
    rw [Nat.mul_mul_mul_comm]
theorem PR_mod (p : Nat) (f : Nat → Nat) : ∀ n, PR (fun k => f k % p) n % p = PR f n % p
  | 0 => rfl
  | n + 1 => by
    show PR (fun k => f k % p) n * (f n % p) % p = PR f n * f n % p
    rw [Nat.mul_mod, PR_mod p f n, Nat.mod_mod, ← Nat.mul_mod]
theorem isP.co {p x : Nat} (hp : isP p) (h0 : 0 < x) (hx : x < p) : Nat.Coprime p x := by
  show Nat.gcd p x = 1
  have hg0 : 0 < Nat.gcd p x := Nat.gcd_pos_of_pos_right p h0
  have hgx : Nat.gcd p x ≤ x := Nat.le_of_dvd h0 (Nat.gcd_dvd_right p x)
  obtain ⟨q, hq⟩ := Nat.gcd_dvd_left p x
  obtain ⟨g, hg⟩ : ∃ g, g = Nat.gcd p x := ⟨_, rfl⟩
  rw [← hg] at hg0 hgx hq ⊢
  rcases Nat.lt_or_ge 1 g with h1 | h1
  · exfalso
    have hq2 : 2 ≤ q := by
      rcases Nat.lt_or_ge q 2 with h | h
      · exfalso
        have : q = 0 ∨ q = 1 := by omega
        rcases this with e | e
        · rw [e] at hq; omega
        · rw [e] at hq; omega
      · exact h
    rcases Nat.le_total g q with h | h
    · refine hp.2 g h1 ?_ ?_
      · rw [hq]; exact Nat.mul_le_mul_left g h
      · rw [hq]; exact Nat.mul_mod_right g q
    · refine hp.2 q hq2 ?_ ?_
      · rw [hq]; exact Nat.mul_le_mul_right q h
      · rw [hq]; exact Nat.mul_mod_left g q
  · omega
theorem isP.nz {p d x : Nat} (hp : isP p) (hd0 : 0 < d) (hd : d < p) (hx0 : 0 < x) (hx : x < p) : d * x % p ≠ 0 := fun e => by
  have h1 : p ∣ d * x := Nat.dvd_of_mod_eq_zero e
  have h2 := (hp.co hd0 hd).dvd_of_dvd_mul_left h1
  have := Nat.le_of_dvd hx0 h2
  omega
theorem fermat {p d : Nat} (hp : isP p) (hd0 : 0 < d) (hd : d < p) : d ^ (p - 1) % p = 1 := by
  have hp2 := hp.1
  have e1 : PR (fun k => d * (k + 1) % p) (p - 1) = PR (fun k => k + 1) (p - 1) := by
    have := PR_perm (fun k => k + 1) (p - 1) (fun k => d * (k + 1) % p - 1) (fun i hi => by
      have h1 := hp.nz hd0 hd (show 0 < i + 1 by omega) (by omega)
      have h2 := Nat.mod_lt (d * (i + 1)) (show 0 < p by omega)
      omega) (fun i j hij hj => by
      have h1 := hp.nz hd0 hd (show 0 < i + 1 by omega) (by omega)
      have h2 := hp.nz hd0 hd (show 0 < j + 1 by omega) (by omega)
      intro q
      have q2 : d * (i + 1) % p = d * (j + 1) % p := by omega
      have e : d * (j + 1) = d * (i + 1) + d * (j - i) := by rw [← Nat.mul_add]; congr 1; omega
      have h3 : d * (j - i) % p = 0 := by
        have h4 := Nat.sub_mod_eq_zero_of_mod_eq q2.symm
        rw [e, Nat.add_sub_cancel_left] at h4
        exact h4
      exact hp.nz hd0 hd (show 0 < j - i by omega) (by omega) h3)
    rw [← this]
    apply PR_cong
    intro k hk
    have h1 := hp.nz hd0 hd (show 0 < k + 1 by omega) (by omega)
    omega
  have e2 := PR_mod p (fun k => d * (k + 1)) (p - 1)
  rw [e1, PR_mul] at e2
  have hco : ∀ k, k ≤ p - 1 → Nat.Coprime p (PR (fun k => k + 1) k) := by
    intro k
    induction k with
    | zero => intro _; exact Nat.coprime_one_right p
    | succ k ih =>
      intro hk
      exact Nat.Coprime.mul_right (ih (by omega)) (hp.co (x := k + 1) (by omega) (by omega))
  have hF := hco (p - 1) (Nat.le_refl _)
  obtain ⟨F, hFe⟩ : ∃ F, F = PR (fun k => k + 1) (p - 1) := ⟨_, rfl⟩
  rw [← hFe] at e2 hF
  have hge : 1 ≤ d ^ (p - 1) := Nat.pow_pos hd0
  have h1 : p ∣ (d ^ (p - 1) - 1) * F := by
    have h2 : (d ^ (p - 1) - 1) * F = d ^ (p - 1) * F - F := by rw [Nat.sub_mul, Nat.one_mul]
    rw [h2]
    exact Nat.dvd_of_mod_eq_zero (Nat.sub_mod_eq_zero_of_mod_eq e2.symm)
  have h3 := hF.dvd_of_dvd_mul_right h1
  obtain ⟨q, hq⟩ := h3
  rw [show d ^ (p - 1) = 1 + p * q by omega, Nat.add_mul_mod_self_left, Nat.mod_eq_of_lt (by omega)]
theorem iv_lt {p d : Nat} (hp : 0 < p) : iv p d < p := by
  unfold iv
  split
  · exact hp
  · exact Nat.mod_lt _ hp
theorem iv_mul {p d : Nat} (hp : isP p) (hd0 : 0 < d) (hd : d < p) : iv p d * d % p = 1 := by
  have hp2 := hp.1
  unfold iv
  rw [if_neg (by omega), Nat.mod_mul_mod, ← Nat.pow_succ, show (p - 2).succ = p - 1 by omega]
  exact fermat hp hd0 hd
