/-! A FORMULA'S CODES: what they do with a stack of numbers, of which kinds they are; the class's Reckoner does it. -/
/-- joined: 6 + 7 - 8 * 9 / 10 % 11 min 12 max 13 < 14 > 15 = 16 and 17 or -/
def q_rw (j : Nat) (a b : Int) : Int :=
  if j = 6 then a + b else if j = 7 then a - b else if j = 8 then a * b else if j = 9 then q_fl a b else if j = 10 then q_md a b
  else if j = 11 then (if b < a then b else a) else if j = 12 then (if a < b then b else a) else if j = 13 then (if a < b then 1 else 0)
  else if j = 14 then (if b < a then 1 else 0) else if j = 15 then (if a = b then 1 else 0) else if j = 16 then (if a = 1 ∧ b = 1 then 1 else 0) else (if a = 1 ∨ b = 1 then 1 else 0)
/-- a code: a number below 10000; 10000 all; 10001 .. 10005 night, room, nights, empty, its own; 10006 .. 10017 joined; 10018 not; 10019 if -/
def q_stp (e : Nat → Int) (st : List Int) (n : Nat) : List Int :=
  if n < 10000 then (n : Int) :: st else if n = 10000 then 1 :: st else if n ≤ 10005 then e (n - 10000) :: st
  else if n ≤ 10017 then (match st with
    | b :: a :: r => q_lim (q_rw (n - 10000) a b) :: r
    | _ => st)
  else if n = 10018 then (match st with
    | a :: r => (1 - a) :: r
    | _ => st)
  else match st with
    | c :: b :: a :: r => (if a = 1 then b else c) :: r
    | _ => st
def q_ev (e : Nat → Int) : List Nat → List Int → List Int
  | [], st => st
  | n :: r, st => q_ev e r (q_stp e st n)
/-- the kinds: a test is true here -/
def q_ty (ts : List Bool) (n : Nat) : Option (List Bool) :=
  if n < 10000 then some (false :: ts) else if n = 10000 then some (true :: ts) else if n ≤ 10005 then some (false :: ts)
  else if n ≤ 10012 then (match ts with
    | false :: false :: r => some (false :: r)
    | _ => none)
  else if n ≤ 10015 then (match ts with
    | false :: false :: r => some (true :: r)
    | _ => none)
  else if n ≤ 10017 then (match ts with
    | true :: true :: r => some (true :: r)
    | _ => none)
  else if n = 10018 then (match ts with
    | true :: r => some (true :: r)
    | _ => none)
  else if n = 10019 then (match ts with
    | false :: false :: true :: r => some (false :: r)
    | _ => none)
  else none
/-- kinds along a row of codes, never more than 60 at once -/
def q_tyL : List Nat → List Bool → Option (List Bool)
  | [], ts => some ts
  | n :: r, ts => match q_ty ts n with
    | some t => if t.length ≤ 60 then q_tyL r t else none
    | none => none
def q_vt (v : Int) (t : Bool) : Prop := iS v ∧ (t = true → v = 0 ∨ v = 1)
def q_VT : List Int → List Bool → Prop
  | [], [] => True
  | v :: st, t :: ts => q_vt v t ∧ q_VT st ts
  | _, _ => False
theorem q_VT_len : ∀ (st : List Int) (ts : List Bool), q_VT st ts → st.length = ts.length
  | [], [], _ => rfl
  | [], _ :: _, h => h.elim
  | _ :: _, [], h => h.elim
  | v :: st, t :: ts, h => by rw [List.length_cons, List.length_cons, q_VT_len st ts h.2]
theorem q_VT_c {t : Bool} {ts : List Bool} {st : List Int} (h : q_VT st (t :: ts)) : ∃ v r, st = v :: r ∧ q_vt v t ∧ q_VT r ts := by
  cases st with
  | nil => exact h.elim
  | cons v r => exact ⟨v, r, rfl, h⟩
/-- which codes there are, by kinds of the stack -/
theorem q_ty_cases {ts ts' : List Bool} {n : Nat} (h : q_ty ts n = some ts') :
    (n ≤ 10005 ∧ ts' = decide (n = 10000) :: ts) ∨ (10006 ≤ n ∧ n ≤ 10015 ∧ ∃ r, ts = false :: false :: r ∧ ts' = decide (10013 ≤ n) :: r) ∨ (10016 ≤ n ∧ n ≤ 10017 ∧ ∃ r, ts = true :: true :: r ∧ ts' = true :: r) ∨ (n = 10018 ∧ ∃ r, ts = true :: r ∧ ts' = true :: r) ∨ (n = 10019 ∧ ∃ r, ts = false :: false :: true :: r ∧ ts' = false :: r) := by
  unfold q_ty at h
  by_cases h1 : n < 10000
  · rw [if_pos h1] at h
    exact Or.inl ⟨by omega, by rw [decide_eq_false (by omega)]; exact (Option.some.inj h).symm⟩
  rw [if_neg h1] at h
  by_cases h2 : n = 10000
  · rw [if_pos h2] at h
    exact Or.inl ⟨by omega, by rw [decide_eq_true h2]; exact (Option.some.inj h).symm⟩
  rw [if_neg h2] at h
  by_cases h3 : n ≤ 10005
  · rw [if_pos h3] at h
    exact Or.inl ⟨h3, by rw [decide_eq_false h2]; exact (Option.some.inj h).symm⟩
  rw [if_neg h3] at h
  by_cases h4 : n ≤ 10012
  · rw [if_pos h4] at h
    split at h
    · rename_i r
      exact Or.inr (Or.inl ⟨by omega, by omega, r, rfl, by rw [decide_eq_false (by omega)]; exact (Option.some.inj h).symm⟩)
    · cases h
  rw [if_neg h4] at h
  by_cases h5 : n ≤ 10015
  · rw [if_pos h5] at h
    split at h
    · rename_i r
      exact Or.inr (Or.inl ⟨by omega, by omega, r, rfl, by rw [decide_eq_true (by omega)]; exact (Option.some.inj h).symm⟩)
    · cases h
  rw [if_neg h5] at h
  by_cases h6 : n ≤ 10017
  · rw [if_pos h6] at h
    split at h
    · rename_i r
      exact Or.inr (Or.inr (Or.inl ⟨by omega, by omega, r, rfl, (Option.some.inj h).symm⟩))
    · cases h
  rw [if_neg h6] at h
  by_cases h7 : n = 10018
  · rw [if_pos h7] at h
    split at h
    · rename_i r
      exact Or.inr (Or.inr (Or.inr (Or.inl ⟨h7, r, rfl, (Option.some.inj h).symm⟩)))
    · cases h
  rw [if_neg h7] at h
  by_cases h8 : n = 10019
  · rw [if_pos h8] at h
    split at h
    · rename_i r
      exact Or.inr (Or.inr (Or.inr (Or.inr ⟨h8, r, rfl, (Option.some.inj h).symm⟩)))
    · cases h
  rw [if_neg h8] at h
  cases h
theorem q_vt_t {v : Int} (h : v = 0 ∨ v = 1) (t : Bool) : q_vt v t := ⟨by unfold iS; omega, fun _ => h⟩
theorem q_rw_01 {j : Nat} (h : 13 ≤ j) (a b : Int) : q_rw j a b = 0 ∨ q_rw j a b = 1 := by
  unfold q_rw
  rw [if_neg (by omega), if_neg (by omega), if_neg (by omega), if_neg (by omega), if_neg (by omega), if_neg (by omega), if_neg (by omega)]
  (repeat' split) <;> omega
theorem q_stp_VT {e : Nat → Int} (he : ∀ j, iS (e j)) {ts ts' : List Bool} {st : List Int} {n : Nat} (h : q_VT st ts) (ht : q_ty ts n = some ts') : q_VT (q_stp e st n) ts' := by
  rcases q_ty_cases ht with ⟨h1, rfl⟩ | ⟨h1, h2, r, rfl, rfl⟩ | ⟨h1, h2, r, rfl, rfl⟩ | ⟨h1, r, rfl, rfl⟩ | ⟨h1, r, rfl, rfl⟩
  · unfold q_stp
    by_cases g1 : n < 10000
    · rw [if_pos g1, decide_eq_false (by omega)]
      exact ⟨⟨by unfold iS; omega, fun q => by cases q⟩, h⟩
    · rw [if_neg g1]
      by_cases g2 : n = 10000
      · rw [if_pos g2]
        exact ⟨q_vt_t (Or.inr rfl) _, h⟩
      · rw [if_neg g2, if_pos h1, decide_eq_false g2]
        exact ⟨⟨he _, fun q => by cases q⟩, h⟩
  · obtain ⟨b, r1, rfl, g1, g2⟩ := q_VT_c h
    obtain ⟨a, r2, rfl, g3, g4⟩ := q_VT_c g2
    unfold q_stp
    rw [if_neg (by omega), if_neg (by omega), if_neg (by omega), if_pos (by omega)]
    refine ⟨⟨q_lim_S _, fun q => ?_⟩, g4⟩
    have q2 := of_decide_eq_true q
    have g5 := q_rw_01 (j := n - 10000) (by omega) a b
    rw [q_lim_id (by unfold iS; omega)]
    exact g5
  · obtain ⟨b, r1, rfl, g1, g2⟩ := q_VT_c h
    obtain ⟨a, r2, rfl, g3, g4⟩ := q_VT_c g2
    unfold q_stp
    rw [if_neg (by omega), if_neg (by omega), if_neg (by omega), if_pos (by omega)]
    have g5 := q_rw_01 (j := n - 10000) (by omega) a b
    refine ⟨?_, g4⟩
    rw [q_lim_id (by unfold iS; omega)]
    exact q_vt_t g5 _
  · obtain ⟨a, r1, rfl, g1, g2⟩ := q_VT_c h
    unfold q_stp
    rw [if_neg (by omega), if_neg (by omega), if_neg (by omega), if_neg (by omega), if_pos (by omega)]
    refine ⟨q_vt_t ?_ _, g2⟩
    have := g1.2 rfl
    omega
  · obtain ⟨c, r1, rfl, g1, g2⟩ := q_VT_c h
    obtain ⟨b, r2, rfl, g3, g4⟩ := q_VT_c g2
    obtain ⟨a, r3, rfl, g5, g6⟩ := q_VT_c g4
    unfold q_stp
    rw [if_neg (by omega), if_neg (by omega), if_neg (by omega), if_neg (by omega), if_neg (by omega)]
    refine ⟨?_, g6⟩
    by_cases q : a = 1
    · rw [if_pos q]; exact g3
    · rw [if_neg q]; exact g1
theorem q_ev_VT {e : Nat → Int} (he : ∀ j, iS (e j)) : ∀ (l : List Nat) (ts ts' : List Bool) (st : List Int), q_VT st ts → q_tyL l ts = some ts' → q_VT (q_ev e l st) ts'
  | [], ts, ts', st, h, ht => by cases ht; exact h
  | n :: r, ts, ts', st, h, ht => by
    rw [q_tyL] at ht
    split at ht
    · rename_i t h1
      split at ht
      · exact q_ev_VT he r t ts' _ (q_stp_VT he h h1) ht
      · cases ht
    · cases ht
/-- a stack in a row of ints, its top last -/
def rS (S : z_S) (c : Nat) (st : List Int) : Prop := ∀ i v, st[i]? = some v → gI S c (st.length - 1 - i) = iI v
theorem rS_c {S : z_S} {c : Nat} {v : Int} {st : List Int} (h : rS S c (v :: st)) : gI S c st.length = iI v ∧ rS S c st := by
  refine ⟨?_, fun i w hi => ?_⟩
  · have := h 0 v rfl
    simpa using this
  · have := h (i + 1) w (by simpa using hi)
    rw [List.length_cons] at this
    rw [← this]
    congr 1
    omega
theorem rS_p {S S' : z_S} {c : Nat} {v : Int} {st : List Int} (h : rS S c st) (h1 : gI S' c st.length = iI v) (h2 : ∀ k, k < st.length → gI S' c k = gI S c k) : rS S' c (v :: st) := by
  intro i w hi
  cases i with
  | zero =>
    simp at hi
    subst hi
    simpa using h1
  | succ i =>
    have hi2 : st[i]? = some w := by simpa using hi
    have hl : i < st.length := by
      rcases Nat.lt_or_ge i st.length with q | q
      · exact q
      · rw [List.getElem?_eq_none q] at hi2; cases hi2
    rw [List.length_cons, show st.length + 1 - 1 - (i + 1) = st.length - 1 - i by omega, h2 _ (by omega)]
    exact h i w hi2
/-- a code as the class writes it -/
def q_en (n : Nat) : Int32 := if n < 10000 then nI n else if n = 10000 then nI 1 else -nI (n - 10000)
section QR
variable {d : Nat} {S : z_S}
theorem c69s {n : Nat} (hW : z_W S) (h : n ≤ 10005) : fI (d + 1) 69 [.int (q_en n)] S = some (nI 0, S) := by
  rw [e69 d (q_en n) S hW]
  have h1 : ¬ q_en n < -5 := by
    unfold q_en
    by_cases h1 : n < 10000
    · rw [if_pos h1, fa_lt, nI_toInt (by omega), show (-5 : Int32).toInt = -5 by decide]; omega
    · rw [if_neg h1]
      by_cases h2 : n = 10000
      · rw [if_pos h2]; decide
      · rw [if_neg h2]
        have : n - 10000 = 1 ∨ n - 10000 = 2 ∨ n - 10000 = 3 ∨ n - 10000 = 4 ∨ n - 10000 = 5 := by omega
        rcases this with q | q | q | q | q <;> rw [q] <;> decide
  rw [if_neg h1]
  rfl
theorem c70 {n : Nat} {e : Nat → Int} (hW : z_W S) (h : n ≤ 10005) (he : ∀ j, 1 ≤ j → j ≤ 5 → gI S 23 j = iI (e j)) {v : Int} (hv : ∀ st, q_stp e st n = v :: st) : fI (d + 1) 70 [.ref 23, .int (q_en n)] S = some (iI v, S) := by
  rw [e70 d (q_en n) S hW]
  unfold q_stp at hv
  have hv1 := hv []
  by_cases h1 : n < 10000
  · rw [if_pos h1] at hv1
    have h2 : q_en n = nI n := by unfold q_en; rw [if_pos h1]
    rw [h2]
    have g : ∀ m : Nat, 0 < m → m < 6 → ¬ nI n = -nI m := fun m q1 q2 q => by
      rw [fa_eq, nI_toInt (by omega)] at q
      have : m = 1 ∨ m = 2 ∨ m = 3 ∨ m = 4 ∨ m = 5 := by omega
      rcases this with z | z | z | z | z <;> subst z
      · rw [show (-nI 1).toInt = -1 by decide] at q; omega
      · rw [show (-nI 2).toInt = -2 by decide] at q; omega
      · rw [show (-nI 3).toInt = -3 by decide] at q; omega
      · rw [show (-nI 4).toInt = -4 by decide] at q; omega
      · rw [show (-nI 5).toInt = -5 by decide] at q; omega
    rw [if_neg (show ¬ nI n = -5 from g 5 (by omega) (by omega)), if_neg (show ¬ nI n = -4 from g 4 (by omega) (by omega)), if_neg (show ¬ nI n = -3 from g 3 (by omega) (by omega)), if_neg (show ¬ nI n = -2 from g 2 (by omega) (by omega)), if_neg (show ¬ nI n = -1 from g 1 (by omega) (by omega)), ← (List.cons.inj hv1).1, iI_n]
  · rw [if_neg h1] at hv1
    by_cases h2 : n = 10000
    · rw [if_pos h2] at hv1
      have h3 : q_en n = nI 1 := by unfold q_en; rw [if_neg h1, if_pos h2]
      rw [h3, if_neg (by decide), if_neg (by decide), if_neg (by decide), if_neg (by decide), if_neg (by decide), ← (List.cons.inj hv1).1]
      rfl
    · rw [if_neg h2, if_pos h] at hv1
      have h3 : q_en n = -nI (n - 10000) := by unfold q_en; rw [if_neg h1, if_neg h2]
      have hv2 := (List.cons.inj hv1).1
      have : n - 10000 = 1 ∨ n - 10000 = 2 ∨ n - 10000 = 3 ∨ n - 10000 = 4 ∨ n - 10000 = 5 := by omega
      rw [h3, ← hv2]
      rcases this with q | q | q | q | q <;> rw [q]
      · rw [if_neg (by decide), if_neg (by decide), if_neg (by decide), if_neg (by decide), if_pos (by decide), he 1 (by omega) (by omega)]
      · rw [if_neg (by decide), if_neg (by decide), if_neg (by decide), if_pos (by decide), he 2 (by omega) (by omega)]
      · rw [if_neg (by decide), if_neg (by decide), if_pos (by decide), he 3 (by omega) (by omega)]
      · rw [if_neg (by decide), if_pos (by decide), he 4 (by omega) (by omega)]
      · rw [if_pos (by decide), he 5 (by omega) (by omega)]
theorem q_w01 {a : Int} (h : a = 0 ∨ a = 1) : iS a := by unfold iS; omega
theorem c71b {n : Nat} {a b : Int} {p : Int32} (hW : z_W S) (h1 : 10006 ≤ n) (h2 : n ≤ 10017) (ha : iS a) (hb : iS b) (h3 : 10016 ≤ n → (a = 0 ∨ a = 1) ∧ (b = 0 ∨ b = 1)) : b71_32 (d + 1) (q_en n) p (iL a) (iL b) S = some (iL (q_rw (n - 10000) a b), S) := by
  have hS := ha
  have hT := hb
  unfold iS at hS hT
  have h4 : n = 10006 ∨ n = 10007 ∨ n = 10008 ∨ n = 10009 ∨ n = 10010 ∨ n = 10011 ∨ n = 10012 ∨ n = 10013 ∨ n = 10014 ∨ n = 10015 ∨ n = 10016 ∨ n = 10017 := by omega
  rw [b71_32_eq (d + 1) (q_en n) p (iL a) (iL b) S hW]
  have z0 : (iL b = iL 0) ↔ b = 0 := iL_eq (by omega) (by omega) (by omega) (by omega)
  rcases h4 with q | q | q | q | q | q | q | q | q | q | q | q <;> subst q
  · rw [if_neg (by decide), if_neg (by decide), if_neg (by decide), if_neg (by decide), if_neg (by decide), if_neg (by decide), if_neg (by decide), if_neg (by decide), if_neg (by decide), if_neg (by decide), if_neg (by decide), if_neg (by decide), if_pos (by decide)]
    rw [iL_add]; rfl
  · rw [if_neg (by decide), if_neg (by decide), if_neg (by decide), if_neg (by decide), if_neg (by decide), if_neg (by decide), if_neg (by decide), if_neg (by decide), if_neg (by decide), if_neg (by decide), if_neg (by decide), if_pos (by decide)]
    rw [iL_sub]; rfl
  · rw [if_neg (by decide), if_neg (by decide), if_neg (by decide), if_neg (by decide), if_neg (by decide), if_neg (by decide), if_neg (by decide), if_neg (by decide), if_neg (by decide), if_neg (by decide), if_pos (by decide)]
    rw [iL_mul]; rfl
  · rw [if_neg (by decide), if_neg (by decide), if_neg (by decide), if_neg (by decide), if_neg (by decide), if_neg (by decide), if_neg (by decide), if_neg (by decide), if_neg (by decide), if_pos (by decide)]
    by_cases q : b = 0
    · rw [if_neg (fun z => z ((lg_cmp_eq _ _).mpr (by rw [q]; rfl)))]
      show _ = some (iL (q_fl a b), S)
      unfold q_fl
      rw [if_pos q]; rfl
    · rw [if_pos (show ¬ lg_cmp (iL b) 0 = 0 from fun z => q (z0.mp ((lg_cmp_eq _ _).mp z))), c275 hW ha hb q, zb_some]; rfl
  · rw [if_neg (by decide), if_neg (by decide), if_neg (by decide), if_neg (by decide), if_neg (by decide), if_neg (by decide), if_neg (by decide), if_neg (by decide), if_pos (by decide)]
    by_cases q : b = 0
    · rw [if_neg (fun z => z ((lg_cmp_eq _ _).mpr (by rw [q]; rfl)))]
      show _ = some (iL (q_md a b), S)
      unfold q_md
      rw [if_pos q]; rfl
    · rw [if_pos (show ¬ lg_cmp (iL b) 0 = 0 from fun z => q (z0.mp ((lg_cmp_eq _ _).mp z))), c276 hW ha hb q, zb_some]; rfl
  · rw [if_neg (by decide), if_neg (by decide), if_neg (by decide), if_neg (by decide), if_neg (by decide), if_neg (by decide), if_neg (by decide), if_pos (by decide)]
    rw [c280 hW (by omega) (by omega), zb_some]; rfl
  · rw [if_neg (by decide), if_neg (by decide), if_neg (by decide), if_neg (by decide), if_neg (by decide), if_neg (by decide), if_pos (by decide)]
    rw [c278 hW (by omega) (by omega), zb_some]; rfl
  · rw [if_neg (by decide), if_neg (by decide), if_neg (by decide), if_neg (by decide), if_neg (by decide), if_pos (by decide)]
    show _ = some (iL (if a < b then 1 else 0), S)
    by_cases q : a < b
    · rw [if_neg (fun z => by have := (iL_le (by omega) (by omega) (by omega) (by omega)).mp ((lg_cmp_ge _ _).mp z); omega), if_pos q]; rfl
    · rw [if_pos ((lg_cmp_ge _ _).mpr ((iL_le (by omega) (by omega) (by omega) (by omega)).mpr (by omega))), if_neg q]; rfl
  · rw [if_neg (by decide), if_neg (by decide), if_neg (by decide), if_neg (by decide), if_pos (by decide)]
    show _ = some (iL (if b < a then 1 else 0), S)
    by_cases q : b < a
    · rw [if_neg (fun z => by have := (iL_le (by omega) (by omega) (by omega) (by omega)).mp ((lg_cmp_le _ _).mp z); omega), if_pos q]; rfl
    · rw [if_pos ((lg_cmp_le _ _).mpr ((iL_le (by omega) (by omega) (by omega) (by omega)).mpr (by omega))), if_neg q]; rfl
  · rw [if_neg (by decide), if_neg (by decide), if_neg (by decide), if_pos (by decide)]
    show _ = some (iL (if a = b then 1 else 0), S)
    by_cases q : a = b
    · rw [if_neg (fun z => z ((lg_cmp_eq _ _).mpr (by rw [q]))), if_pos q]; rfl
    · rw [if_pos (fun z => q ((iL_eq (by omega) (by omega) (by omega) (by omega)).mp ((lg_cmp_eq _ _).mp z))), if_neg q]; rfl
  · rw [if_neg (by decide), if_neg (by decide), if_pos (by decide)]
    obtain ⟨g1, g2⟩ := h3 (by omega)
    rcases g1 with g1 | g1 <;> rcases g2 with g2 | g2 <;> subst g1 <;> subst g2 <;> rfl
  · rw [if_neg (by decide), if_pos (by decide)]
    obtain ⟨g1, g2⟩ := h3 (by omega)
    rcases g1 with g1 | g1 <;> rcases g2 with g2 | g2 <;> subst g1 <;> subst g2 <;> rfl
end QR
