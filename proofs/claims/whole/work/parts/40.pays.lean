/-! pays: sets of ladies whose nets come to nothing -/
/-- the sum of those that are told, up to a number -/
def fS (p : Nat → Bool) (v : Nat → Int32) : Nat → Int32
  | 0 => 0
  | n + 1 => fS p v n + (if p n = true then v n else 0)
theorem fS_c {p q : Nat → Bool} {v : Nat → Int32} : ∀ n, (∀ j, j < n → p j = q j) → fS p v n = fS q v n
  | 0, _ => rfl
  | n + 1, h => by
    show fS p v n + (if p n = true then v n else 0) = fS q v n + (if q n = true then v n else 0)
    rw [fS_c n (fun j z => h j (by omega)), h n (by omega)]
theorem fS_put {p q : Nat → Bool} {v : Nat → Int32} {i : Nat} (hp : p i = true) (hq : q i = false) (h : ∀ j, j ≠ i → p j = q j) : ∀ n, fS p v n = if i < n then fS q v n + v i else fS q v n
  | 0 => by rw [if_neg (Nat.not_lt_zero i)]; rfl
  | n + 1 => by
    show fS p v n + (if p n = true then v n else 0) = if i < n + 1 then fS q v n + (if q n = true then v n else 0) + v i else fS q v n + (if q n = true then v n else 0)
    by_cases z : n = i
    · subst z
      rw [fS_c (q := q) n (fun j y => h j (by omega)), if_pos hp, if_pos (by omega), if_neg (by rw [hq]; exact Bool.false_ne_true), Int32.add_zero]
    · rw [fS_put hp hq h n, h n z]
      by_cases y : i < n
      · rw [if_pos y, if_pos (show i < n + 1 by omega), Int32.add_assoc, Int32.add_assoc, Int32.add_comm (v i)]
      · rw [if_neg y, if_neg (show ¬ i < n + 1 by omega)]
abbrev bt (a : Nat) : Nat → Bool := fun l => a.testBit l
def ss (v : Nat → Int32) (a : Nat) : Int32 := fS (bt a) v 8
def mx (p : Nat → Bool) (f : Nat → Nat) : Nat → Nat
  | 0 => 0
  | n + 1 => if p n = true then (if mx p f n < f n then f n else mx p f n) else mx p f n
theorem mx_le {p : Nat → Bool} {f : Nat → Nat} {B : Nat} : ∀ n, (∀ j, j < n → p j = true → f j ≤ B) → mx p f n ≤ B
  | 0, _ => Nat.zero_le _
  | n + 1, h => by
    have ih := mx_le n (fun j a b => h j (by omega) b)
    show (if p n = true then (if mx p f n < f n then f n else mx p f n) else mx p f n) ≤ B
    by_cases q : p n = true
    · have := h n (by omega) q
      rw [if_pos q]
      split <;> omega
    · rw [if_neg q]
      exact ih
theorem le_mx {p : Nat → Bool} {f : Nat → Nat} {j : Nat} (hp : p j = true) : ∀ n, j < n → f j ≤ mx p f n
  | 0, h => absurd h (Nat.not_lt_zero _)
  | n + 1, h => by
    show f j ≤ (if p n = true then (if mx p f n < f n then f n else mx p f n) else mx p f n)
    by_cases z : j = n
    · subst z
      rw [if_pos hp]
      split <;> omega
    · have ih := le_mx (f := f) hp n (by omega)
      by_cases q : p n = true
      · rw [if_pos q]
        split <;> omega
      · rw [if_neg q]
        exact ih
theorem mx_at {p : Nat → Bool} {f : Nat → Nat} : ∀ n, (∃ j, j < n ∧ p j = true) → ∃ j, j < n ∧ p j = true ∧ f j = mx p f n
  | 0, ⟨j, h, _⟩ => absurd h (Nat.not_lt_zero _)
  | n + 1, ⟨j, h, hj⟩ => by
    show ∃ j, j < n + 1 ∧ p j = true ∧ f j = (if p n = true then (if mx p f n < f n then f n else mx p f n) else mx p f n)
    by_cases q : p n = true
    · rw [if_pos q]
      by_cases z : mx p f n < f n
      · rw [if_pos z]
        exact ⟨n, by omega, q, rfl⟩
      · rw [if_neg z]
        by_cases y : ∃ j, j < n ∧ p j = true
        · obtain ⟨i, h1, h2, h3⟩ := mx_at (f := f) n y
          exact ⟨i, by omega, h2, h3⟩
        · have h0 : mx p f n = 0 := Nat.le_zero.mp (mx_le n fun i a b => absurd ⟨i, a, b⟩ y)
          exact ⟨n, by omega, q, by omega⟩
    · rw [if_neg q]
      have : j ≠ n := fun e => q (by rw [← e]; exact hj)
      obtain ⟨i, h1, h2, h3⟩ := mx_at (f := f) n ⟨j, by omega, hj⟩
      exact ⟨i, by omega, h2, h3⟩
theorem mx_c {p : Nat → Bool} {f g : Nat → Nat} : ∀ n, (∀ j, j < n → p j = true → f j = g j) → mx p f n = mx p g n
  | 0, _ => rfl
  | n + 1, h => by
    show (if p n = true then (if mx p f n < f n then f n else mx p f n) else mx p f n) = (if p n = true then (if mx p g n < g n then g n else mx p g n) else mx p g n)
    rw [mx_c n (fun j a b => h j (by omega) b)]
    by_cases q : p n = true
    · rw [if_pos q, if_pos q, h n (by omega) q]
    · rw [if_neg q, if_neg q]
/-- the most groups, by which sets count -/
def gzN (z : Nat → Nat) : Nat → Nat → Nat
  | 0, _ => 0
  | n + 1, a => if a = 0 then 0 else mx (bt a) (fun l => gzN z n (a ^^^ 2 ^ l)) 8 + z a
theorem x_k : ∀ a, a < 256 → ∀ l, l < 8 → a.testBit l = true → a ^^^ 2 ^ l < a := by decide +kernel
theorem gzN_ext (z : Nat → Nat) : ∀ (n m a : Nat), a < 256 → a < n → a < m → gzN z n a = gzN z m a
  | 0, _, _, _, h, _ => absurd h (Nat.not_lt_zero _)
  | _, 0, _, _, _, h => absurd h (Nat.not_lt_zero _)
  | n + 1, m + 1, a, h8, hn, hm => by
    show (if a = 0 then 0 else mx (bt a) (fun l => gzN z n (a ^^^ 2 ^ l)) 8 + z a) = (if a = 0 then 0 else mx (bt a) (fun l => gzN z m (a ^^^ 2 ^ l)) 8 + z a)
    rw [mx_c 8 fun l hl hb => by
      have := x_k a h8 l hl hb
      exact gzN_ext z n m (a ^^^ 2 ^ l) (by omega) (by omega) (by omega)]
def gG (z : Nat → Nat) (a : Nat) : Nat := gzN z 256 a
theorem gG_0 (z : Nat → Nat) : gG z 0 = 0 := rfl
theorem gG_s (z : Nat → Nat) {a : Nat} (h : a < 256) (h0 : 0 < a) : gG z a = mx (bt a) (fun l => gG z (a ^^^ 2 ^ l)) 8 + z a := by
  show (if a = 0 then 0 else mx (bt a) (fun l => gzN z 255 (a ^^^ 2 ^ l)) 8 + z a) = _
  rw [if_neg (by omega), mx_c 8 fun l hl hb => by
    have := x_k a h l hl hb
    exact gzN_ext z 255 256 (a ^^^ 2 ^ l) (by omega) (by omega) (by omega)]
  rfl
theorem gzN_le {z : Nat → Nat} (hz : ∀ a, z a ≤ 1) : ∀ (n a : Nat), gzN z n a ≤ n
  | 0, _ => Nat.le_refl _
  | n + 1, a => by
    show (if a = 0 then 0 else mx (bt a) (fun l => gzN z n (a ^^^ 2 ^ l)) 8 + z a) ≤ n + 1
    split
    · omega
    · have h1 := mx_le (p := bt a) (f := fun l => gzN z n (a ^^^ 2 ^ l)) (B := n) 8 (fun l _ _ => gzN_le hz n _)
      have h2 := hz a
      omega
theorem bt_x (a l j : Nat) : bt (a ^^^ 2 ^ l) j = (bt a j ^^ decide (l = j)) := by
  show (a ^^^ 2 ^ l).testBit j = _
  rw [Nat.testBit_xor, Nat.testBit_two_pow]
theorem bt_lo {a i : Nat} (hi : bt a i = true) : bt (a ^^^ 2 ^ i) i = false ∧ ∀ j, j ≠ i → bt a j = bt (a ^^^ 2 ^ i) j := by
  refine ⟨?_, fun j hj => ?_⟩
  · rw [bt_x, hi, decide_eq_true rfl]
    rfl
  · rw [bt_x, decide_eq_false (fun e => hj e.symm), Bool.xor_false]
theorem ss_put {v : Nat → Int32} {a i : Nat} (hi : bt a i = true) (h8 : i < 8) : ss v a = ss v (a ^^^ 2 ^ i) + v i := by
  obtain ⟨h1, h2⟩ := bt_lo hi
  have := fS_put (v := v) hi h1 h2 8
  rw [if_pos h8] at this
  exact this
theorem bt_0 (l : Nat) : bt 0 l = false := Nat.zero_testBit l
theorem fS_no (v : Nat → Int32) : ∀ n, fS (fun _ => false) v n = 0
  | 0 => rfl
  | n + 1 => by
    show fS (fun _ => false) v n + (if false = true then v n else 0) = 0
    rw [fS_no v n, if_neg Bool.false_ne_true]
    rfl
theorem ss_0 (v : Nat → Int32) : ss v 0 = 0 := by
  unfold ss
  rw [fS_c (q := fun _ => false) 8 (fun j _ => bt_0 j), fS_no]
theorem ss_1 (v : Nat → Int32) {i : Nat} (h8 : i < 8) : ss v (2 ^ i) = v i := by
  rw [ss_put (i := i) (by show (2 ^ i).testBit i = true; rw [Nat.testBit_two_pow, decide_eq_true rfl]) h8, Nat.xor_self, ss_0, Int32.zero_add]
/-- class: a set counts whose sum is nought; the reference: none of it alone is nought, too -/
def z1 (v : Nat → Int32) (a : Nat) : Nat := if ss v a = 0 then 1 else 0
def soP (v : Nat → Int32) (a : Nat) : Nat → Bool
  | 0 => false
  | n + 1 => if bt a n = true then (soP v a n || decide (v n = 0)) else soP v a n
def z2 (v : Nat → Int32) (a : Nat) : Nat := if ss v a = 0 ∧ soP v a 8 = false then 1 else 0
theorem soP_f {v : Nat → Int32} {a : Nat} (h : ∀ j, j < 8 → bt a j = true → v j ≠ 0) : ∀ n, n ≤ 8 → soP v a n = false
  | 0, _ => rfl
  | n + 1, hn => by
    show (if bt a n = true then (soP v a n || decide (v n = 0)) else soP v a n) = false
    rw [soP_f h n (by omega)]
    by_cases q : bt a n = true
    · rw [if_pos q, decide_eq_false (h n (by omega) q)]
      rfl
    · rw [if_neg q]
theorem z1_le (v : Nat → Int32) (a : Nat) : z1 v a ≤ 1 := by
  unfold z1
  split <;> omega
theorem z2_le (v : Nat → Int32) (a : Nat) : z2 v a ≤ 1 := by
  unfold z2
  split <;> omega
/-- where none is nought alone both count alike -/
theorem g12 {v : Nat → Int32} : ∀ (n a : Nat), a ≤ n → a < 256 → (∀ j, j < 8 → bt a j = true → v j ≠ 0) → gG (z1 v) a = gG (z2 v) a
  | 0, a, hn, _, _ => by
    rw [show a = 0 by omega, gG_0, gG_0]
  | n + 1, a, hn, h8, h => by
    by_cases q : a = 0
    · rw [q, gG_0, gG_0]
    · rw [gG_s _ h8 (by omega), gG_s _ h8 (by omega), mx_c (g := fun l => gG (z2 v) (a ^^^ 2 ^ l)) 8 fun l hl hb => by
        have := x_k a h8 l hl hb
        refine g12 n _ (by omega) (by omega) fun j hj hb2 => ?_
        obtain ⟨b1, b2⟩ := bt_lo hb
        by_cases e : j = l
        · rw [e, b1] at hb2
          exact absurd hb2 Bool.false_ne_true
        · exact h j hj (by rw [b2 j e]; exact hb2)]
      have : z1 v a = z2 v a := by
        unfold z1 z2
        rw [soP_f h 8 (by omega)]
        by_cases e : ss v a = 0
        · rw [if_pos e, if_pos ⟨e, rfl⟩]
        · rw [if_neg e, if_neg (fun y => e y.1)]
      rw [this]
theorem xx (a i : Nat) : a ^^^ 2 ^ i ^^^ 2 ^ i = a := by rw [Nat.xor_assoc, Nat.xor_self, Nat.xor_zero]
theorem x_sw (a i l : Nat) : a ^^^ 2 ^ i ^^^ 2 ^ l = a ^^^ 2 ^ l ^^^ 2 ^ i := by rw [Nat.xor_assoc, Nat.xor_comm (2 ^ i), ← Nat.xor_assoc]
theorem bt_ex {a : Nat} (h0 : 0 < a) (h8 : a < 256) : ∃ j, j < 8 ∧ bt a j = true := by
  refine Classical.byContradiction fun q => ?_
  have : a = 0 := Nat.eq_of_testBit_eq fun j => by
    rw [Nat.zero_testBit]
    by_cases z : j < 8
    · cases hb : a.testBit j
      · rfl
      · exact absurd ⟨j, z, hb⟩ q
    · have h1 : 2 ^ 8 ≤ 2 ^ j := Nat.pow_le_pow_right (by decide) (by omega)
      exact Nat.testBit_lt_two_pow (by omega)
  omega
theorem x_lt {a i : Nat} (h8 : a < 256) (hi : i < 8) : a ^^^ 2 ^ i < 256 := Nat.xor_lt_two_pow (n := 8) h8 (Nat.pow_lt_pow_right (by decide) hi)
/-- one more whose net is nought: one more group -/
theorem g_put {v : Nat → Int32} {i : Nat} (hi : i < 8) (hv : v i = 0) : ∀ (n a : Nat), a ≤ n → a < 256 → bt a i = false → gG (z1 v) (a ^^^ 2 ^ i) = gG (z1 v) a + 1 := by
  intro n
  induction n with
  | zero =>
    intro a hn h8 hb
    have e : a = 0 := by omega
    subst e
    have hp : 0 < 0 ^^^ 2 ^ i := by rw [Nat.zero_xor]; exact Nat.two_pow_pos i
    have hb2 : bt (0 ^^^ 2 ^ i) i = true := by rw [bt_x, hb, decide_eq_true rfl]; rfl
    rw [gG_s _ (x_lt h8 hi) hp, gG_0]
    have h1 : mx (bt (0 ^^^ 2 ^ i)) (fun l => gG (z1 v) (0 ^^^ 2 ^ i ^^^ 2 ^ l)) 8 = 0 := by
      refine Nat.le_zero.mp (mx_le 8 fun l hl hb3 => ?_)
      rw [bt_x, bt_0, Bool.false_xor] at hb3
      have := of_decide_eq_true hb3
      subst this
      show gG (z1 v) (0 ^^^ 2 ^ i ^^^ 2 ^ i) ≤ 0
      rw [xx]
      exact Nat.le_refl _
    rw [h1]
    unfold z1
    rw [ss_put hb2 hi, xx, ss_0, hv, if_pos (by decide)]
  | succ n ih =>
    intro a hn h8 hb
    by_cases q : a = 0
    · exact ih a (by omega) h8 hb
    have hb2 : bt (a ^^^ 2 ^ i) i = true := by rw [bt_x, hb, decide_eq_true rfl]; rfl
    have hp : 0 < a ^^^ 2 ^ i := by
      refine Nat.pos_of_ne_zero fun z => ?_
      rw [z, bt_0] at hb2
      exact absurd hb2 Bool.false_ne_true
    have hs : z1 v (a ^^^ 2 ^ i) = z1 v a := by
      unfold z1
      rw [ss_put hb2 hi, xx, hv, Int32.add_zero]
    rw [gG_s _ (x_lt h8 hi) hp, gG_s _ h8 (by omega), hs]
    have hg := gG_s (z1 v) h8 (show 0 < a by omega)
    have hz := z1_le v a
    have hl : ∀ l, l < 8 → bt a l = true → gG (z1 v) (a ^^^ 2 ^ i ^^^ 2 ^ l) = gG (z1 v) (a ^^^ 2 ^ l) + 1 := fun l hl hbl => by
      have := x_k a h8 l hl hbl
      rw [x_sw]
      refine ih _ (by omega) (by omega) ?_
      rw [bt_x, hb, decide_eq_false (fun e => by rw [e, hb] at hbl; exact absurd hbl Bool.false_ne_true)]
      rfl
    have hmx : mx (bt (a ^^^ 2 ^ i)) (fun l => gG (z1 v) (a ^^^ 2 ^ i ^^^ 2 ^ l)) 8 = mx (bt a) (fun l => gG (z1 v) (a ^^^ 2 ^ l)) 8 + 1 := by
      refine Nat.le_antisymm (mx_le 8 fun l h1 h2 => ?_) ?_
      · by_cases e : l = i
        · subst e
          show gG (z1 v) (a ^^^ 2 ^ l ^^^ 2 ^ l) ≤ _
          rw [xx, hg]
          omega
        · have h3 : bt a l = true := by
            rw [bt_x, decide_eq_false (fun y => e y.symm), Bool.xor_false] at h2
            exact h2
          show gG (z1 v) (a ^^^ 2 ^ i ^^^ 2 ^ l) ≤ _
          rw [hl l h1 h3]
          have := le_mx (f := fun l => gG (z1 v) (a ^^^ 2 ^ l)) h3 8 h1
          have this : gG (z1 v) (a ^^^ 2 ^ l) ≤ _ := this
          omega
      · obtain ⟨l, h1, h2, h3⟩ := mx_at (p := bt a) (f := fun l => gG (z1 v) (a ^^^ 2 ^ l)) 8 (bt_ex (by omega) h8)
        have h4 : bt (a ^^^ 2 ^ i) l = true := by
          rw [bt_x, h2, decide_eq_false (fun e => by rw [← e, hb] at h2; exact absurd h2 Bool.false_ne_true)]
          rfl
        have h5 := le_mx (f := fun l => gG (z1 v) (a ^^^ 2 ^ i ^^^ 2 ^ l)) h4 8 h1
        have h5 : gG (z1 v) (a ^^^ 2 ^ i ^^^ 2 ^ l) ≤ _ := h5
        rw [hl l h1 h2] at h5
        have h3 : gG (z1 v) (a ^^^ 2 ^ l) = _ := h3
        omega
    rw [hmx]
    omega
/-- those who have a net; and these with the first others -/
def owP (v : Nat → Int32) : Nat → Bool := fun j => decide (v j ≠ 0)
def owN (v : Nat → Int32) : Nat := setN (owP v) 8 0 0
theorem owN_lt (v : Nat → Int32) : owN v < 256 := setN_lt (owP v) 8 0 0 (by decide)
theorem owN_b (v : Nat → Int32) {j : Nat} (hj : j < 8) : bt (owN v) j = owP v j := by
  show (setN (owP v) 8 0 0).testBit j = _
  rw [setN_bit (owP v) 8 0 0 j (by decide), if_pos ⟨by omega, by omega⟩]
def nzN (v : Nat → Int32) : Nat → Nat
  | 0 => 0
  | n + 1 => nzN v n + (if v n = 0 then 1 else 0)
def upN (v : Nat → Int32) (l : Nat) : Nat := setN (fun j => owP v j || decide (j < l)) 8 0 0
theorem upN_b (v : Nat → Int32) (l : Nat) {j : Nat} (hj : j < 8) : bt (upN v l) j = (owP v j || decide (j < l)) := by
  show (setN _ 8 0 0).testBit j = _
  rw [setN_bit _ 8 0 0 j (by decide), if_pos ⟨by omega, by omega⟩]
theorem bt_eq {a b : Nat} (ha : a < 256) (hb : b < 256) (h : ∀ j, j < 8 → bt a j = bt b j) : a = b := Nat.eq_of_testBit_eq fun j => by
  by_cases z : j < 8
  · exact h j z
  · have h1 : 2 ^ 8 ≤ 2 ^ j := Nat.pow_le_pow_right (by decide) (by omega)
    rw [Nat.testBit_lt_two_pow (by omega), Nat.testBit_lt_two_pow (by omega)]
theorem up_g (v : Nat → Int32) : ∀ l, l ≤ 8 → gG (z1 v) (upN v l) = gG (z1 v) (owN v) + nzN v l
  | 0, _ => by
    rw [bt_eq (setN_lt _ 8 0 0 (by decide)) (owN_lt v) (a := upN v 0) (b := owN v) fun j hj => by
      rw [upN_b v 0 hj, owN_b v hj, decide_eq_false (Nat.not_lt_zero j), Bool.or_false]]
    rfl
  | l + 1, hl => by
    have ih := up_g v l (by omega)
    have h8 : upN v l < 256 := setN_lt _ 8 0 0 (by decide)
    have h82 : upN v (l + 1) < 256 := setN_lt _ 8 0 0 (by decide)
    show _ = _ + (nzN v l + (if v l = 0 then 1 else 0))
    by_cases q : v l = 0
    · have hb : bt (upN v l) l = false := by
        rw [upN_b v l (by omega), decide_eq_false (Nat.lt_irrefl l), Bool.or_false]
        exact decide_eq_false (fun z => z q)
      have e : upN v (l + 1) = upN v l ^^^ 2 ^ l := bt_eq h82 (x_lt h8 (by omega)) fun j hj => by
        rw [bt_x, upN_b v (l + 1) hj, upN_b v l hj]
        by_cases z : j = l
        · subst z
          rw [decide_eq_true (show j < j + 1 by omega), decide_eq_false (Nat.lt_irrefl j), decide_eq_true rfl, Bool.or_true, Bool.or_false, show owP v j = false from decide_eq_false (fun z => z q)]
          rfl
        · rw [decide_eq_false (fun y : l = j => z y.symm), Bool.xor_false]
          by_cases y : j < l
          · rw [decide_eq_true y, decide_eq_true (show j < l + 1 by omega)]
          · rw [decide_eq_false y, decide_eq_false (show ¬ j < l + 1 by omega)]
      rw [if_pos q, e, g_put (by omega) q 256 _ (by omega) h8 hb, ih]
      omega
    · have e : upN v (l + 1) = upN v l := bt_eq h82 h8 fun j hj => by
        rw [upN_b v (l + 1) hj, upN_b v l hj]
        by_cases z : j = l
        · subst z
          rw [show owP v j = true from decide_eq_true q, Bool.true_or, Bool.true_or]
        · by_cases y : j < l
          · rw [decide_eq_true y, decide_eq_true (show j < l + 1 by omega)]
          · rw [decide_eq_false y, decide_eq_false (show ¬ j < l + 1 by omega)]
      rw [if_neg q, e, ih]
      omega
/-- all eight: the groups of those who have a net, and each other one -/
theorem g_all (v : Nat → Int32) : gG (z1 v) 255 = gG (z2 v) (owN v) + nzN v 8 := by
  have e : upN v 8 = 255 := bt_eq (setN_lt _ 8 0 0 (by decide)) (by decide) fun j hj => by
    rw [upN_b v 8 hj, decide_eq_true hj, Bool.or_true]
    exact ((by decide : ∀ j, j < 8 → bt 255 j = true) j hj).symm
  rw [← e, up_g v 8 (by omega), g12 256 (owN v) (by have := owN_lt v; omega) (owN_lt v) fun j hj hb => by
    rw [owN_b v hj] at hb
    exact of_decide_eq_true hb]
