/-! ===== WHAT IS MEANT: beats, news, gaps, expected, limits, mistakes, in whole numbers ===== -/
/-- beats: delays (-1: lost), how many, period, silence (-1: none), window -/
abbrev BT : Type := (Nat → Int) × Nat × Int × Int × Nat
def bD (b : BT) : Nat → Int := b.1
def bN (b : BT) : Nat := b.2.1
def bP (b : BT) : Int := b.2.2.1
def bS (b : BT) : Int := b.2.2.2.1
def bW (b : BT) : Nat := b.2.2.2.2
def BB (b : BT) : Prop := (bN b ≤ 40 ∧ ∀ k, -1 ≤ bD b k ∧ bD b k ≤ 99) ∧ (1 ≤ bP b ∧ bP b ≤ 50) ∧ (-1 ≤ bS b ∧ bS b ≤ 5000) ∧ 1 ≤ bW b ∧ bW b ≤ 16
def lo (b : BT) (k : Nat) : Bool := decide (bD b k = -1) || (decide (¬ bS b = -1) && decide (bS b ≤ (k : Int) * bP b))
def tm (b : BT) (k : Nat) : Int := if lo b k then -1 else (k : Int) * bP b + bD b k
def nwU (b : BT) (k n : Nat) : Bool := !lo b k && (List.range n).all (fun q => decide (q ≤ k) || (lo b q || decide (tm b k ≤ tm b q)))
def nw (b : BT) (k : Nat) : Bool := nwU b k (bN b)
theorem nwU_iff {b : BT} {k n : Nat} : nwU b k n = true ↔ lo b k = false ∧ ∀ q, k < q → q < n → lo b q = true ∨ tm b k ≤ tm b q := by
  simp only [nwU, Bool.and_eq_true, Bool.not_eq_true', List.all_eq_true, List.mem_range, Bool.or_eq_true, decide_eq_true_eq]
  constructor
  · rintro ⟨h1, h2⟩
    refine ⟨h1, fun q hq hn => ?_⟩
    rcases h2 q hn with h | h
    · omega
    · exact h
  · rintro ⟨h1, h2⟩
    refine ⟨h1, fun q hn => ?_⟩
    rcases Nat.lt_or_ge k q with h | h
    · exact Or.inr (h2 q h hn)
    · exact Or.inl h
theorem nwU_less {b : BT} {k m n : Nat} (h : m ≤ n) (h1 : nwU b k m = false) : nwU b k n = false := by
  cases h2 : nwU b k n with
  | false => rfl
  | true =>
    have h3 := nwU_iff.mp h2
    rw [nwU_iff.mpr ⟨h3.1, fun q hq hm => h3.2 q hq (by omega)⟩] at h1; cases h1
theorem nwU_0 {b : BT} {k : Nat} : nwU b k (k + 1) = !lo b k := by
  cases h : lo b k with
  | true => simp [nwU, h]
  | false => rw [nwU_iff.mpr ⟨h, fun q h1 h2 => by omega⟩]; rfl
theorem nwU_t {b : BT} {k q : Nat} (h : nwU b k q = true) (h2 : lo b q = true ∨ tm b k ≤ tm b q) : nwU b k (q + 1) = true := by
  have h3 := nwU_iff.mp h
  refine nwU_iff.mpr ⟨h3.1, fun p hp hq => ?_⟩
  rcases Nat.lt_or_ge p q with h4 | h4
  · exact h3.2 p hp h4
  · rw [show p = q by omega]; exact h2
theorem nwU_f {b : BT} {k q : Nat} (hq : k < q) (h1 : lo b q = false) (h2 : tm b q < tm b k) : nwU b k (q + 1) = false := by
  cases h : nwU b k (q + 1) with
  | false => rfl
  | true => rcases (nwU_iff.mp h).2 q hq (by omega) with h3 | h3
            · rw [h1] at h3; cases h3
            · omega
def nc (b : BT) : Nat := fb_ct (nw b) (bN b)
def nb (b : BT) (i : Nat) : Nat := ((List.range (bN b)).find? (fun k => nw b k && decide (fb_ct (nw b) k = i))).getD 0
def nt (b : BT) (i : Nat) : Int := tm b (nb b i)
theorem mul_rng {x y A B : Int} (h1 : 0 ≤ x ∧ x ≤ A) (h2 : 0 ≤ y ∧ y ≤ B) : 0 ≤ x * y ∧ x * y ≤ A * B :=
  ⟨Int.mul_nonneg h1.1 h2.1, Int.mul_le_mul h1.2 h2.2 h2.1 (Int.le_trans h1.1 h1.2)⟩
theorem lo_D {b : BT} {k : Nat} (h : lo b k = false) (hB : BB b) : 0 ≤ bD b k ∧ bD b k ≤ 99 := by
  have h1 := hB.1.2 k
  simp only [lo, Bool.or_eq_false_iff, decide_eq_false_iff_not] at h
  omega
theorem kp_rng {b : BT} (hB : BB b) {k : Nat} (hk : k < 40) : 0 ≤ (k : Int) * bP b ∧ (k : Int) * bP b ≤ 1950 := by
  have := mul_rng (x := (k : Int)) (y := bP b) (A := 39) (B := 50) (by omega) (by have := hB.2.1; omega)
  omega
theorem tm_t {b : BT} {k : Nat} (h : lo b k = true) : tm b k = -1 := by simp [tm, h]
theorem tm_f {b : BT} {k : Nat} (h : lo b k = false) : tm b k = (k : Int) * bP b + bD b k := by simp [tm, h]
theorem tm_rng {b : BT} (hB : BB b) {k : Nat} (hk : k < 40) : -1 ≤ tm b k ∧ tm b k ≤ 2049 := by
  cases h : lo b k with
  | true => rw [tm_t h]; omega
  | false => rw [tm_f h]; have := lo_D h hB; have := kp_rng hB hk; omega
theorem tm_pos {b : BT} (hB : BB b) {k : Nat} (hk : k < 40) (h : lo b k = false) : 0 ≤ tm b k := by
  rw [tm_f h]; have := lo_D h hB; have := kp_rng hB hk; omega
theorem nw_iff {b : BT} {k : Nat} : nw b k = true ↔ lo b k = false ∧ ∀ q, k < q → q < bN b → lo b q = true ∨ tm b k ≤ tm b q := nwU_iff
theorem nc_le {b : BT} : nc b ≤ bN b := fb_ct_le _ _
theorem nb_of {b : BT} {k : Nat} (hk : k < bN b) (h : nw b k = true) : nb b (fb_ct (nw b) k) = k := by
  unfold nb
  cases hf : (List.range (bN b)).find? (fun j => nw b j && decide (fb_ct (nw b) j = fb_ct (nw b) k)) with
  | none =>
    have := List.find?_eq_none.mp hf k (List.mem_range.mpr hk)
    simp [h] at this
  | some j =>
    have h1 := List.find?_some hf
    simp only [Bool.and_eq_true, decide_eq_true_eq] at h1
    exact fb_ct_kth_one h1.1 h h1.2
theorem nb_lt {b : BT} {i : Nat} (h : i < nc b) : nb b i < bN b ∧ nw b (nb b i) = true ∧ fb_ct (nw b) (nb b i) = i := by
  obtain ⟨k, h1, h2, h3⟩ := fb_ct_kth h
  have := nb_of h1 h2
  rw [h3] at this
  rw [this]
  exact ⟨h1, h2, h3⟩
theorem nb_lo {b : BT} {i : Nat} (h : i < nc b) : lo b (nb b i) = false := (nw_iff.mp (nb_lt h).2.1).1
theorem nb_40 {b : BT} (hB : BB b) {i : Nat} (h : i < nc b) : nb b i < 40 := by have := (nb_lt h).1; have := hB.1.1; omega
theorem nc_40 {b : BT} (hB : BB b) : nc b ≤ 40 := Nat.le_trans nc_le hB.1.1
theorem nb_mono {b : BT} {i j : Nat} (hij : i < j) (hj : j < nc b) : nb b i < nb b j := by
  have h1 := nb_lt (Nat.lt_trans hij hj)
  have h2 := nb_lt hj
  rcases Nat.lt_or_ge (nb b i) (nb b j) with h | h
  · exact h
  · have := fb_ct_mono (nw b) h
    omega
theorem nt_rng {b : BT} (hB : BB b) {i : Nat} (h : i < nc b) : 0 ≤ nt b i ∧ nt b i ≤ 2049 :=
  ⟨tm_pos hB (nb_40 hB h) (nb_lo h), (tm_rng hB (nb_40 hB h)).2⟩
theorem nt_mono {b : BT} {i j : Nat} (hij : i ≤ j) (hj : j < nc b) : nt b i ≤ nt b j := by
  rcases Nat.lt_or_ge i j with h | h
  · have h1 := nb_mono h hj
    have h2 := nb_lt (Nat.lt_trans h hj)
    have h3 := nb_lt hj
    rcases (nw_iff.mp h2.2.1).2 _ h1 h3.1 with q | q
    · rw [nb_lo hj] at q; cases q
    · exact q
  · rw [show i = j by omega]; exact Int.le_refl _
/-- late by how much -/
def dy (b : BT) (i : Nat) : Int := nt b i - bP b * (nb b i : Int)
theorem dy_rng {b : BT} (hB : BB b) {i : Nat} (h : i < nc b) : 0 ≤ dy b i ∧ dy b i ≤ 99 := by
  have h1 := lo_D (nb_lo h) hB
  unfold dy nt
  rw [tm_f (nb_lo h), Int.mul_comm]
  omega
def gp (b : BT) (i : Nat) : Nat := min i (bW b)
def gap (b : BT) (i k : Nat) : Int := nt b (i - k) - nt b (i - k - 1)
theorem gap_rng {b : BT} (hB : BB b) {i k : Nat} (h : i < nc b) : 0 ≤ gap b i k ∧ gap b i k ≤ 2049 := by
  have h1 := nt_rng hB (show i - k < nc b by omega)
  have h2 := nt_rng hB (show i - k - 1 < nc b by omega)
  have h3 := nt_mono (b := b) (show i - k - 1 ≤ i - k by omega) (by omega)
  unfold gap; omega
def bl (b : BT) (i : Nat) : Nat := min (i + 1) (bW b)
theorem bl_rng {b : BT} (hB : BB b) (i : Nat) : 1 ≤ bl b i ∧ bl b i ≤ 16 ∧ bl b i ≤ i + 1 := by
  have := hB.2.2.2; unfold bl; omega
theorem gp_rng {b : BT} (hB : BB b) (i : Nat) : gp b i ≤ 16 ∧ gp b i ≤ i := by
  have := hB.2.2.2; unfold gp; omega
def ab (b : BT) (i : Nat) : Int := (bl b i : Int) * bP b * ((nb b i : Int) + 1) + fb_si (fun k => dy b (i - k)) (bl b i)
theorem si_rng {f : Nat → Int} {c : Int} : ∀ {n : Nat}, (∀ k, k < n → 0 ≤ f k ∧ f k ≤ c) → 0 ≤ fb_si f n ∧ fb_si f n ≤ n * c
  | 0, _ => by simp [fb_si]
  | n + 1, h => by
    have h1 := si_rng (n := n) (fun k hk => h k (by omega))
    have h2 := h n (by omega)
    rw [fb_si_succ]
    have : ((n + 1 : Nat) : Int) * c = n * c + c := by rw [Int.natCast_add, Int.add_mul]; simp
    omega
theorem sum_rng {b : BT} (hB : BB b) {i n : Nat} (h : i < nc b) (hn : n ≤ 16) : 0 ≤ fb_si (fun k => dy b (i - k)) n ∧ fb_si (fun k => dy b (i - k)) n ≤ 1584 := by
  have h1 := si_rng (f := fun k => dy b (i - k)) (c := 99) (n := n) (fun k _ => dy_rng hB (by omega))
  omega
theorem ab_rng {b : BT} (hB : BB b) {i : Nat} (h : i < nc b) : 0 ≤ ab b i ∧ ab b i ≤ 33584 := by
  have h1 := bl_rng hB i
  have h2 := sum_rng hB h h1.2.1
  have h3 := mul_rng (x := (bl b i : Int)) (y := bP b) (A := 16) (B := 50) (by omega) (by have := hB.2.1; omega)
  have h4 := mul_rng (x := (bl b i : Int) * bP b) (y := (nb b i : Int) + 1) (A := 800) (B := 40) (by omega) (by have := nb_40 hB h; omega)
  unfold ab; omega
def lt (b : BT) (i : Nat) (far : Int) : Nat := fb_ct (fun k => decide (gap b i k < far)) (gp b i)
def up (x y : Int) : Int := (x + y - 1) / y
theorem up_rng {b : BT} (hB : BB b) {i : Nat} (h : i < nc b) : 0 ≤ up (ab b i) (bl b i) ∧ up (ab b i) (bl b i) ≤ 33600 := by
  have h1 := bl_rng hB i
  have h2 := ab_rng hB h
  unfold up
  constructor
  · exact Int.ediv_nonneg (by omega) (by omega)
  · refine Int.le_trans (Int.ediv_le_self _ (by omega)) (by omega)
/-- the least gap so that tenths of all are no greater, of the first k gaps -/
def tnF (b : BT) (i : Nat) (t : Int) : Nat → Int
  | 0 => -1
  | k + 1 => if t * (gp b i : Int) ≤ 10 * (lt b i (gap b i k + 1) : Int) ∧ (tnF b i t k = -1 ∨ gap b i k < tnF b i t k) then gap b i k else tnF b i t k
def ten (b : BT) (i : Nat) (t : Int) : Int := tnF b i t (gp b i)
theorem tnF_rng {b : BT} (hB : BB b) {i : Nat} (h : i < nc b) (t : Int) : ∀ k, -1 ≤ tnF b i t k ∧ tnF b i t k ≤ 2049
  | 0 => by simp [tnF]
  | k + 1 => by
    have h1 := tnF_rng hB h t k
    have h2 := gap_rng hB (k := k) h
    unfold tnF
    split <;> omega
def lim (b : BT) (so ms : Int) (i m : Nat) : Int :=
  if so = 0 then up (ab b i) (bl b i) + ms else if so = 1 then (if gp b i = 0 then -1 else nt b i + ten b i ms + 1) else if so = 2 then nt b i + ms else up (ab b i) (bl b i) + ms * ((m : Int) + 1)
/-- sorts and measures that may be -/
def okW (so ms : Int) : Prop := (so = 0 ∧ 0 ≤ ms ∧ ms ≤ 99) ∨ (so = 1 ∧ 1 ≤ ms ∧ ms ≤ 10) ∨ (so = 2 ∧ 1 ≤ ms ∧ ms ≤ 200) ∨ (so = 3 ∧ 0 ≤ ms ∧ ms ≤ 30)
theorem lim_rng {b : BT} (hB : BB b) {so ms : Int} (hw : okW so ms) {i m : Nat} (h : i < nc b) (hm : m ≤ 40) : -1 ≤ lim b so ms i m ∧ lim b so ms i m ≤ 40000 := by
  have h1 := up_rng hB h
  have h2 := tnF_rng hB h ms (gp b i)
  have h3 := nt_rng hB h
  unfold lim ten
  rcases hw with ⟨rfl, w⟩ | ⟨rfl, w⟩ | ⟨rfl, w⟩ | ⟨rfl, w⟩
  · simp only [if_true]; omega
  · simp only [show ¬ (1 : Int) = 0 by decide, if_false, if_true]; split <;> omega
  · simp only [show ¬ (2 : Int) = 0 by decide, show ¬ (2 : Int) = 1 by decide, if_false, if_true]; omega
  · have h4 := mul_rng (x := ms) (y := (m : Int) + 1) (A := 30) (B := 41) (by omega) (by omega)
    simp only [show ¬ (3 : Int) = 0 by decide, show ¬ (3 : Int) = 1 by decide, show ¬ (3 : Int) = 2 by decide, if_false]; omega
def bgF (b : BT) (so ms : Int) (i m : Nat) : Int := if lim b so ms i m = -1 then -1 else if nt b i < lim b so ms i m then lim b so ms i m else nt b i
def miF (b : BT) (so ms : Int) (i m : Nat) : Bool := decide (¬ bgF b so ms i m = -1) && (decide (i + 1 < nc b) && decide (bgF b so ms i m < nt b (i + 1)))
def mc (b : BT) (so ms : Int) : Nat → Nat
  | 0 => 0
  | i + 1 => mc b so ms i + (if miF b so ms i (mc b so ms i) then 1 else 0)
def bg (b : BT) (so ms : Int) (i : Nat) : Int := bgF b so ms i (mc b so ms i)
def mi (b : BT) (so ms : Int) (i : Nat) : Bool := miF b so ms i (mc b so ms i)
theorem mc_succ (b : BT) (so ms : Int) (i : Nat) : mc b so ms (i + 1) = mc b so ms i + (if mi b so ms i then 1 else 0) := rfl
theorem mc_le (b : BT) (so ms : Int) : ∀ i, mc b so ms i ≤ i
  | 0 => Nat.le_refl _
  | i + 1 => by have := mc_le b so ms i; rw [mc_succ]; split <;> omega
theorem bg_rng {b : BT} (hB : BB b) {so ms : Int} (hw : okW so ms) {i : Nat} (h : i < nc b) : -1 ≤ bg b so ms i ∧ bg b so ms i ≤ 40000 := by
  have h1 := lim_rng hB hw (m := mc b so ms i) h (by have := mc_le b so ms i; have := nc_40 hB; omega)
  have h3 := nt_rng hB h
  unfold bg bgF
  split
  · omega
  · split <;> omega
theorem bg_nt {b : BT} (hB : BB b) {so ms : Int} {i : Nat} (h : i < nc b) : bg b so ms i = -1 ∨ nt b i ≤ bg b so ms i := by
  unfold bg bgF
  split
  · exact Or.inl rfl
  · split
    · exact Or.inr (by omega)
    · exact Or.inr (Int.le_refl _)
def al (b : BT) (so ms : Int) : Nat → Int
  | 0 => 0
  | i + 1 => al b so ms i + (if mi b so ms i then nt b (i + 1) - bg b so ms i else 0)
def mo (b : BT) (so ms : Int) : Nat → Int
  | 0 => 0
  | i + 1 => if mi b so ms i = true ∧ mo b so ms i < nt b (i + 1) - bg b so ms i then nt b (i + 1) - bg b so ms i else mo b so ms i
def lg (b : BT) (so ms : Int) : Nat → Int
  | 0 => -1
  | i + 1 => if ¬ bg b so ms i = -1 ∧ lg b so ms i < bg b so ms i - bP b * (nb b i : Int) then bg b so ms i - bP b * (nb b i : Int) else lg b so ms i
theorem mi_iff {b : BT} {so ms : Int} {i : Nat} : mi b so ms i = true ↔ ¬ bg b so ms i = -1 ∧ i + 1 < nc b ∧ bg b so ms i < nt b (i + 1) := by
  unfold mi miF bg; simp
theorem mi_last {b : BT} {so ms : Int} {i : Nat} (h : ¬ i + 1 < nc b) : mi b so ms i = false := by
  cases h1 : mi b so ms i with
  | false => rfl
  | true => exact absurd (mi_iff.mp h1).2.1 h
theorem wide_rng {b : BT} (hB : BB b) {so ms : Int} (hw : okW so ms) {i : Nat} (h : mi b so ms i = true) : 0 < nt b (i + 1) - bg b so ms i ∧ nt b (i + 1) - bg b so ms i ≤ 2050 := by
  have h1 := mi_iff.mp h
  have h2 := bg_rng hB hw (show i < nc b by omega)
  have h3 := nt_rng hB h1.2.1
  omega
theorem al_rng {b : BT} (hB : BB b) {so ms : Int} (hw : okW so ms) : ∀ i, 0 ≤ al b so ms i ∧ al b so ms i ≤ i * 2050
  | 0 => by simp [al]
  | i + 1 => by
    have h1 := al_rng hB hw i
    unfold al
    split
    · have := wide_rng hB hw (by assumption); omega
    · omega
theorem mo_rng {b : BT} (hB : BB b) {so ms : Int} (hw : okW so ms) : ∀ i, 0 ≤ mo b so ms i ∧ mo b so ms i ≤ 2050
  | 0 => by simp [mo]
  | i + 1 => by
    have h1 := mo_rng hB hw i
    unfold mo
    split
    · rename_i h; have := wide_rng hB hw h.1; omega
    · omega
theorem pn_rng {b : BT} (hB : BB b) {i : Nat} (h : i < nc b) : 0 ≤ bP b * (nb b i : Int) ∧ bP b * (nb b i : Int) ≤ 1950 := by
  have := mul_rng (x := bP b) (y := (nb b i : Int)) (A := 50) (B := 39) (by have := hB.2.1; omega) (by have := nb_40 hB h; omega)
  omega
theorem lg_rng {b : BT} (hB : BB b) {so ms : Int} (hw : okW so ms) : ∀ i, i ≤ nc b → -1 ≤ lg b so ms i ∧ lg b so ms i ≤ 40000
  | 0, _ => by simp [lg]
  | i + 1, h => by
    have h1 := lg_rng hB hw i (by omega)
    have h2 := bg_rng hB hw (i := i) (by omega)
    have h3 := pn_rng hB (i := i) (by omega)
    unfold lg
    split <;> omega
def kep (b : BT) (so ms no fe : Int) : Bool := (decide (no = -1) || decide (lg b so ms (nc b) ≤ no)) && (decide (fe = -1) || decide ((mc b so ms (nc b) : Int) ≤ fe))
/-- the greatest of 1 .. p that fits, or -1 -/
def grF (P : Nat → Bool) : Nat → Int
  | 0 => -1
  | p + 1 => if P (p + 1) then ((p + 1 : Nat) : Int) else grF P p
/-- the first from v on, k tries, that fits, or -1 -/
def leF (P : Nat → Bool) : Nat → Nat → Int
  | 0, _ => -1
  | k + 1, v => if P v then (v : Int) else leF P k (v + 1)
