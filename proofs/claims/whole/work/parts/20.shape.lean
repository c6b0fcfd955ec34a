/-! THE SHAPE of the store behind the constructors (written by wip/whole/gen/shape.py), and the rules for what reads and writes it. -/
def z_Kl : List Nat := [11, 20, 6, 20, 20, 20, 20, 20, 20, 20, 6, 20, 20, 20, 20, 20, 20, 20, 1, 10, 20, 20, 2, 7, 20, 20, 20, 8, 20, 20, 20, 20, 8, 20, 20, 20, 20, 4, 20, 5, 23, 24, 8, 20, 20, 20, 20, 4, 20, 8, 20, 20, 20, 20, 4, 20, 8, 20, 20, 20, 20, 4, 20, 8, 20, 20, 20, 20, 4, 20, 8, 20, 20, 20, 20, 4, 20, 8, 20, 20, 20, 20, 4, 20, 8, 20, 20, 20, 20, 4, 20, 8, 20, 20, 20, 20, 4, 20, 8, 20, 20, 20, 20, 4, 20, 8, 20, 20, 20, 20, 4, 20, 8, 20, 20, 20, 20, 4, 20, 8, 20, 20, 20, 20, 4, 20, 8, 20, 20, 20, 20, 4, 20, 8, 20, 20, 20, 20, 4, 20, 8, 20, 20, 20, 20, 4, 20, 8, 20, 20, 20, 20, 4, 20, 8, 20, 20, 20, 20, 4, 20, 8, 20, 20, 20, 20, 4, 20, 8, 20, 20, 20, 20, 4, 20, 8, 20, 20, 20, 20, 4, 20, 9, 20, 23, 22, 20, 8, 20, 20, 20, 20, 8, 20, 20, 20, 20, 8, 20, 20, 20, 20, 8, 20, 20, 20, 20, 8, 20, 20, 20, 20, 8, 20, 20, 20, 20, 8, 20, 20, 20, 20, 8, 20, 20, 20, 20, 8, 20, 20, 20, 20, 8, 20, 20, 20, 20, 8, 20, 20, 20, 20, 8, 20, 20, 20, 20, 8, 20, 20, 20, 20, 8, 20, 20, 20, 20, 8, 20, 20, 20, 20, 8, 20, 20, 20, 20, 8, 20, 20, 20, 20, 8, 20, 20, 20, 20, 8, 20, 20, 20, 20, 8, 20, 20, 20, 20, 8, 20, 20, 20, 20, 8, 20, 20, 20, 20, 8, 20, 20, 20, 20, 8, 20, 20, 20, 20, 8, 20, 20, 20, 20, 8, 20, 20, 20, 20, 8, 20, 20, 20, 20, 8, 20, 20, 20, 20, 8, 20, 20, 20, 20, 8, 20, 20, 20, 20, 8, 20, 20, 20, 20, 8, 20, 20, 20, 20, 8, 20, 20, 20, 20, 8, 20, 20, 20, 20, 8, 20, 20, 20, 20, 8, 20, 20, 20, 20, 8, 20, 20, 20, 20, 8, 20, 20, 20, 20, 8, 20, 20, 20, 20, 8, 20, 20, 20, 20, 0, 20, 20, 20, 20, 20, 3, 20, 20, 12, 20, 20, 20, 20, 20, 20, 20, 20, 20, 20, 20, 20, 20, 20, 20, 21, 20, 20, 22, 20, 20, 20, 20, 20, 20, 20, 20, 20, 20, 20, 20, 20, 21, 20, 20, 20, 20, 20, 20, 20, 20, 20, 20, 20, 20]
def z_Ll : List Nat := [17, 1600, 16, 16, 16, 16, 16, 1600, 3, 3, 16, 16, 16, 16, 16, 1600, 3, 3, 5, 9, 24, 0, 4, 6, 64, 40, 40, 9, 16, 16, 16, 6, 9, 16, 16, 16, 6, 3, 40, 4, 20, 20, 9, 16, 16, 16, 6, 3, 40, 9, 16, 16, 16, 6, 3, 40, 9, 16, 16, 16, 6, 3, 40, 9, 16, 16, 16, 6, 3, 40, 9, 16, 16, 16, 6, 3, 40, 9, 16, 16, 16, 6, 3, 40, 9, 16, 16, 16, 6, 3, 40, 9, 16, 16, 16, 6, 3, 40, 9, 16, 16, 16, 6, 3, 40, 9, 16, 16, 16, 6, 3, 40, 9, 16, 16, 16, 6, 3, 40, 9, 16, 16, 16, 6, 3, 40, 9, 16, 16, 16, 6, 3, 40, 9, 16, 16, 16, 6, 3, 40, 9, 16, 16, 16, 6, 3, 40, 9, 16, 16, 16, 6, 3, 40, 9, 16, 16, 16, 6, 3, 40, 9, 16, 16, 16, 6, 3, 40, 9, 16, 16, 16, 6, 3, 40, 9, 16, 16, 16, 6, 3, 40, 9, 48, 40, 40, 17, 9, 16, 16, 16, 6, 9, 16, 16, 16, 6, 9, 16, 16, 16, 6, 9, 16, 16, 16, 6, 9, 16, 16, 16, 6, 9, 16, 16, 16, 6, 9, 16, 16, 16, 6, 9, 16, 16, 16, 6, 9, 16, 16, 16, 6, 9, 16, 16, 16, 6, 9, 16, 16, 16, 6, 9, 16, 16, 16, 6, 9, 16, 16, 16, 6, 9, 16, 16, 16, 6, 9, 16, 16, 16, 6, 9, 16, 16, 16, 6, 9, 16, 16, 16, 6, 9, 16, 16, 16, 6, 9, 16, 16, 16, 6, 9, 16, 16, 16, 6, 9, 16, 16, 16, 6, 9, 16, 16, 16, 6, 9, 16, 16, 16, 6, 9, 16, 16, 16, 6, 9, 16, 16, 16, 6, 9, 16, 16, 16, 6, 9, 16, 16, 16, 6, 9, 16, 16, 16, 6, 9, 16, 16, 16, 6, 9, 16, 16, 16, 6, 9, 16, 16, 16, 6, 9, 16, 16, 16, 6, 9, 16, 16, 16, 6, 9, 16, 16, 16, 6, 9, 16, 16, 16, 6, 9, 16, 16, 16, 6, 9, 16, 16, 16, 6, 9, 16, 16, 16, 6, 9, 16, 16, 16, 6, 9, 16, 16, 16, 6, 6, 16, 16, 16, 16, 16, 2, 61, 6, 72, 1800, 2, 2, 2, 2, 2, 32, 32, 2, 32, 2, 6, 6, 3200, 3200, 32, 20, 20, 20, 20, 20, 500, 6, 22, 22, 22, 352, 352, 22, 132, 22, 2640, 500, 10, 40, 16, 16, 16, 16, 16, 16, 41, 20336, 17, 70]
def z_Fl : List (List Nat) := [[1, 0, 2, 10, 18, 22, 27, 32, 37, 39, 182, 387, 393, 395, 0, 0, 0], [], [0, 0, 0, 0, 0, 0, 0, 0, 0, 3, 4, 5, 6, 7, 8, 9], [], [], [], [], [], [], [], [0, 0, 0, 0, 0, 0, 0, 0, 0, 11, 12, 13, 14, 15, 16, 17], [], [], [], [], [], [], [], [0, 0, 19, 10, 0], [20, 21, 0, 0, 0, 0, 0, 0, 0], [], [], [2, 23, 25, 26], [24, 0, 0, 0, 0, 0], [], [], [], [0, 0, 0, 0, 0, 28, 29, 30, 31], [], [], [], [], [0, 0, 0, 0, 0, 33, 34, 35, 36], [], [], [], [], [0, 0, 38], [], [0, 0, 40, 41], [42, 49, 56, 63, 70, 77, 84, 91, 98, 105, 112, 119, 126, 133, 140, 147, 154, 161, 168, 175], [47, 54, 61, 68, 75, 82, 89, 96, 103, 110, 117, 124, 131, 138, 145, 152, 159, 166, 173, 180], [0, 0, 0, 0, 0, 43, 44, 45, 46], [], [], [], [], [0, 0, 48], [], [0, 0, 0, 0, 0, 50, 51, 52, 53], [], [], [], [], [0, 0, 55], [], [0, 0, 0, 0, 0, 57, 58, 59, 60], [], [], [], [], [0, 0, 62], [], [0, 0, 0, 0, 0, 64, 65, 66, 67], [], [], [], [], [0, 0, 69], [], [0, 0, 0, 0, 0, 71, 72, 73, 74], [], [], [], [], [0, 0, 76], [], [0, 0, 0, 0, 0, 78, 79, 80, 81], [], [], [], [], [0, 0, 83], [], [0, 0, 0, 0, 0, 85, 86, 87, 88], [], [], [], [], [0, 0, 90], [], [0, 0, 0, 0, 0, 92, 93, 94, 95], [], [], [], [], [0, 0, 97], [], [0, 0, 0, 0, 0, 99, 100, 101, 102], [], [], [], [], [0, 0, 104], [], [0, 0, 0, 0, 0, 106, 107, 108, 109], [], [], [], [], [0, 0, 111], [], [0, 0, 0, 0, 0, 113, 114, 115, 116], [], [], [], [], [0, 0, 118], [], [0, 0, 0, 0, 0, 120, 121, 122, 123], [], [], [], [], [0, 0, 125], [], [0, 0, 0, 0, 0, 127, 128, 129, 130], [], [], [], [], [0, 0, 132], [], [0, 0, 0, 0, 0, 134, 135, 136, 137], [], [], [], [], [0, 0, 139], [], [0, 0, 0, 0, 0, 141, 142, 143, 144], [], [], [], [], [0, 0, 146], [], [0, 0, 0, 0, 0, 148, 149, 150, 151], [], [], [], [], [0, 0, 153], [], [0, 0, 0, 0, 0, 155, 156, 157, 158], [], [], [], [], [0, 0, 160], [], [0, 0, 0, 0, 0, 162, 163, 164, 165], [], [], [], [], [0, 0, 167], [], [0, 0, 0, 0, 0, 169, 170, 171, 172], [], [], [], [], [0, 0, 174], [], [0, 0, 0, 0, 0, 176, 177, 178, 179], [], [], [], [], [0, 0, 181], [], [0, 183, 184, 185, 0, 186, 0, 0, 0], [], [187, 192, 197, 202, 207, 212, 217, 222, 227, 232, 237, 242, 247, 252, 257, 262, 267, 272, 277, 282, 287, 292, 297, 302, 307, 312, 317, 322, 327, 332, 337, 342, 347, 352, 357, 362, 367, 372, 377, 382], [], [], [0, 0, 0, 0, 0, 188, 189, 190, 191], [], [], [], [], [0, 0, 0, 0, 0, 193, 194, 195, 196], [], [], [], [], [0, 0, 0, 0, 0, 198, 199, 200, 201], [], [], [], [], [0, 0, 0, 0, 0, 203, 204, 205, 206], [], [], [], [], [0, 0, 0, 0, 0, 208, 209, 210, 211], [], [], [], [], [0, 0, 0, 0, 0, 213, 214, 215, 216], [], [], [], [], [0, 0, 0, 0, 0, 218, 219, 220, 221], [], [], [], [], [0, 0, 0, 0, 0, 223, 224, 225, 226], [], [], [], [], [0, 0, 0, 0, 0, 228, 229, 230, 231], [], [], [], [], [0, 0, 0, 0, 0, 233, 234, 235, 236], [], [], [], [], [0, 0, 0, 0, 0, 238, 239, 240, 241], [], [], [], [], [0, 0, 0, 0, 0, 243, 244, 245, 246], [], [], [], [], [0, 0, 0, 0, 0, 248, 249, 250, 251], [], [], [], [], [0, 0, 0, 0, 0, 253, 254, 255, 256], [], [], [], [], [0, 0, 0, 0, 0, 258, 259, 260, 261], [], [], [], [], [0, 0, 0, 0, 0, 263, 264, 265, 266], [], [], [], [], [0, 0, 0, 0, 0, 268, 269, 270, 271], [], [], [], [], [0, 0, 0, 0, 0, 273, 274, 275, 276], [], [], [], [], [0, 0, 0, 0, 0, 278, 279, 280, 281], [], [], [], [], [0, 0, 0, 0, 0, 283, 284, 285, 286], [], [], [], [], [0, 0, 0, 0, 0, 288, 289, 290, 291], [], [], [], [], [0, 0, 0, 0, 0, 293, 294, 295, 296], [], [], [], [], [0, 0, 0, 0, 0, 298, 299, 300, 301], [], [], [], [], [0, 0, 0, 0, 0, 303, 304, 305, 306], [], [], [], [], [0, 0, 0, 0, 0, 308, 309, 310, 311], [], [], [], [], [0, 0, 0, 0, 0, 313, 314, 315, 316], [], [], [], [], [0, 0, 0, 0, 0, 318, 319, 320, 321], [], [], [], [], [0, 0, 0, 0, 0, 323, 324, 325, 326], [], [], [], [], [0, 0, 0, 0, 0, 328, 329, 330, 331], [], [], [], [], [0, 0, 0, 0, 0, 333, 334, 335, 336], [], [], [], [], [0, 0, 0, 0, 0, 338, 339, 340, 341], [], [], [], [], [0, 0, 0, 0, 0, 343, 344, 345, 346], [], [], [], [], [0, 0, 0, 0, 0, 348, 349, 350, 351], [], [], [], [], [0, 0, 0, 0, 0, 353, 354, 355, 356], [], [], [], [], [0, 0, 0, 0, 0, 358, 359, 360, 361], [], [], [], [], [0, 0, 0, 0, 0, 363, 364, 365, 366], [], [], [], [], [0, 0, 0, 0, 0, 368, 369, 370, 371], [], [], [], [], [0, 0, 0, 0, 0, 373, 374, 375, 376], [], [], [], [], [0, 0, 0, 0, 0, 378, 379, 380, 381], [], [], [], [], [0, 0, 0, 0, 0, 383, 384, 385, 386], [], [], [], [], [388, 389, 390, 391, 392, 0], [], [], [], [], [], [0, 394], [], [], [397, 0, 0, 0, 0, 0, 0, 0, 0, 0, 0, 0, 0, 0, 398, 399, 400, 401, 402, 403, 404, 405, 406, 407, 408, 409, 410, 411, 412, 0, 0, 0, 413, 414, 415, 416, 417, 0, 0, 418, 0, 0, 0, 419, 420, 421, 422, 423, 424, 425, 426, 427, 428, 0, 0, 0, 0, 429, 430, 431, 432, 433, 434, 0, 435, 436, 437, 438, 439, 440, 441, 0], [], [], [], [], [], [], [], [], [], [], [], [], [], [], [], [], [], [], [], [], [], [], [], [], [], [], [], [], [], [], [], [], [], [], [], [], [], [], [], [], [], [], [], [], []]
def z_K (c : Nat) : Nat := z_Kl.getD c 99
def z_Ln (c : Nat) : Nat := z_Ll.getD c 0
def z_F (c k : Nat) : Nat := (z_Fl.getD c []).getD k 0
theorem z_K_lt {c : Nat} (h : z_K c ≠ 99) : c < 442 := by
  rcases Nat.lt_or_ge c 442 with q | q
  · exact q
  · exact absurd (by unfold z_K; rw [List.getD_eq_getElem?_getD, List.getElem?_eq_none (by rw [show z_Kl.length = 442 by decide +kernel]; exact q)]; rfl) h
/-- a final reference, or a place of a row of references -/
def z_isF (c k : Nat) : Bool := decide (z_K c < 13 ∧ k < z_nf (z_K c) ∧ z_fi (z_K c) k = true ∧ 4 ≤ z_ty (z_K c) k ∨ (z_K c = 23 ∨ z_K c = 24) ∧ k < z_Ln c)
/-- a reference that may change -/
def z_isM (c k : Nat) : Bool := decide (z_K c < 13 ∧ k < z_nf (z_K c) ∧ z_fi (z_K c) k = false ∧ 4 ≤ z_ty (z_K c) k)
/-- the store is as the constructors leave it, but for numbers and what may change -/
def z_W (S : z_S) : Prop := z_sz S = 442 ∧ z_kd S = z_K ∧ z_ln S = z_Ln ∧ (∀ c k, z_isF c k = true → gR S c k = some (z_F c k)) ∧ ∀ c k, z_isM c k = true → ∃ p, gR S c k = some p ∧ z_ty (z_K c) k = 4 + z_K p
/-- a reference that may change -/
def gP (S : z_S) (c k : Nat) : Nat := (gR S c k).getD 0
theorem z_W.M {S : z_S} (h : z_W S) {c k : Nat} (hm : z_isM c k = true) : gR S c k = some (gP S c k) ∧ z_ty (z_K c) k = 4 + z_K (gP S c k) := by
  obtain ⟨p, h1, h2⟩ := h.2.2.2.2 c k hm
  unfold gP
  rw [h1]
  exact ⟨rfl, h2⟩
theorem z_W.sR {S : z_S} (h : z_W S) {c k v : Nat} (hm : z_isM c k = true) (hv : z_ty (z_K c) k = 4 + z_K v) : z_W (sR S c k (some v)) := by
  refine ⟨h.1, h.2.1, h.2.2.1, fun c' k' hF => ?_, fun c' k' hM => ?_⟩
  · rw [gR_sR]
    by_cases e1 : c' = c
    · by_cases e2 : k' = k
      · subst e1; subst e2
        unfold z_isF at hF
        unfold z_isM at hm
        have h1 := of_decide_eq_true hF
        have h2 := of_decide_eq_true hm
        rcases h1 with h1 | h1
        · rw [h2.2.2.1] at h1; exact absurd h1.2.2.1 (by decide)
        · omega
      · rw [if_pos e1, if_neg e2]; exact h.2.2.2.1 c' k' hF
    · rw [if_neg e1]; exact h.2.2.2.1 c' k' hF
  · rw [gR_sR]
    by_cases e1 : c' = c
    · by_cases e2 : k' = k
      · rw [if_pos e1, if_pos e2, e1, e2]; exact ⟨v, rfl, hv⟩
      · rw [if_pos e1, if_neg e2]; exact h.2.2.2.2 c' k' hM
    · rw [if_neg e1]; exact h.2.2.2.2 c' k' hM
/-! every step of a method that makes no cells keeps the shape -/
theorem z_wr_W {ow : Nat} {i : Instr} {x y : Nat} {st : List Value} {S : z_S} {r : List Value × z_S} (hW : z_W S) (h : z_wr false ow i x y st S = some r) : z_W r.2 := by
  unfold z_wr at h
  split at h
  · split at h
    · split at h
      · cases h; exact hW
      · cases h
    · split at h
      · cases h; exact hW
      · cases h
    · split at h
      · rename_i hg
        cases h
        obtain ⟨g1, g2, g3, g4, g5, g6⟩ := hg
        have hk := hW.2.1
        rw [hk] at g2 g6
        have g4' : z_fi x y = false := by
          rcases g4 with g4 | g4
          · exact g4
          · exact absurd g4.1 (by decide)
        refine hW.sR ?_ ?_
        · unfold z_isM
          rw [g2]
          exact decide_eq_true ⟨z_nf_lt g3, g3, g4', by omega⟩
        · rw [g2]; exact g6
      · cases h
    · cases h
  · split at h
    · split at h
      · cases h; exact hW
      · cases h
    · cases h
  · split at h
    · split at h
      · cases h; exact hW
      · cases h
    · cases h
  · split at h
    · split at h
      · cases h; exact hW
      · cases h
    · cases h
  · split at h
    · split at h
      · rename_i hg
        exact absurd hg.1 (by decide)
      · cases h
    · cases h
  · cases h
theorem z_sp_W {i : Instr} {x : Nat} {st : List Value} {S : z_S} {r : List Value × z_S} (hW : z_W S) (h : z_sp i x st S = some r) : z_W r.2 := by
  unfold z_sp at h
  split at h
  · split at h
    · split at h
      · cases h; exact hW
      · cases h
    · cases h
  · split at h
    · split at h
      · split at h
        · cases h; exact hW
        · cases h
      · cases h
    · split at h
      · split at h
        · split at h
          · cases h; exact hW
          · cases h
        · cases h
      · split at h
        · split at h
          · split at h
            · cases h; exact hW
            · cases h
          · cases h
        · cases h
theorem z_ex_W {X : Nat × (Nat → Int32)} {call : Nat → List Value → z_S → Option z_Q} {mi pc : Nat} {e : z_En} {ls st : List Value} {S : z_S} {o : z_Q ⊕ z_C} (ha : z_al mi = false) (hc : ∀ x as S q, z_al x = false → call x as S = some q → z_W S → z_W q.2) (hW : z_W S) (h : z_ex X call mi pc e ls st S = some o) : (∃ r, o = .inl (r, S)) ∨ ∃ c', o = .inr c' ∧ z_W c'.2.2.2 := by
  unfold z_ex at h
  split at h
  · obtain ⟨r, h1, rfl⟩ := Option.map_eq_some_iff.mp h; exact Or.inr ⟨_, rfl, hW⟩
  · obtain ⟨r, h1, rfl⟩ := Option.map_eq_some_iff.mp h; exact Or.inr ⟨_, rfl, hW⟩
  · obtain ⟨r, h1, rfl⟩ := Option.map_eq_some_iff.mp h; exact Or.inr ⟨_, rfl, hW⟩
  · obtain ⟨r, h1, rfl⟩ := Option.map_eq_some_iff.mp h; exact Or.inr ⟨_, rfl, hW⟩
  · obtain ⟨r, h1, rfl⟩ := Option.map_eq_some_iff.mp h; exact Or.inr ⟨_, rfl, hW⟩
  · obtain ⟨r, h1, rfl⟩ := Option.map_eq_some_iff.mp h
    rw [ha] at h1
    exact Or.inr ⟨_, rfl, z_wr_W hW h1⟩
  · rw [if_neg (by rw [ha]; decide)] at h
    cases h
  · split at h
    · obtain ⟨r, h1, rfl⟩ := Option.map_eq_some_iff.mp h
      exact Or.inr ⟨_, rfl, z_sp_W hW h1⟩
    · split at h
      · cases h
      · split at h
        · rename_i hg
          obtain ⟨q, h1, h2⟩ := Option.bind_eq_some_iff.mp h
          obtain ⟨r, h3, rfl⟩ := Option.map_eq_some_iff.mp h2
          simp only [Bool.and_eq_true, Bool.or_eq_true, Bool.not_eq_true'] at hg
          have hx : z_al e.2.2.2.2.1 = false := by
            rcases hg.2 with h5 | h5
            · exact h5
            · rw [ha] at h5; exact absurd h5.1 (by decide)
          exact Or.inr ⟨_, rfl, hc _ _ _ _ hx h1 hW⟩
        · cases h
  · obtain ⟨r, h1, rfl⟩ := Option.map_eq_some_iff.mp h
    exact Or.inl ⟨r, rfl⟩
theorem z_run_W {X : Nat × (Nat → Int32)} {call : Nat → List Value → z_S → Option z_Q} {mi : Nat} (ha : z_al mi = false) (hc : ∀ x as S q, z_al x = false → call x as S = some q → z_W S → z_W q.2) : ∀ (n : Nat) (c : z_C) (q : z_Q), z_run X call mi n c = some q → z_W c.2.2.2 → z_W q.2
  | 0, c, q, h, _ => by cases h
  | n + 1, c, q, h, hW => by
    rw [z_run] at h
    split at h
    · cases h
    · rename_i q' hs
      cases h
      obtain ⟨e, h1, h2⟩ := z_st_ex hs
      rcases z_ex_W ha hc hW h2 with ⟨r, h3⟩ | ⟨c', h3, -⟩
      · cases h3; exact hW
      · cases h3
    · rename_i c' hs
      obtain ⟨e, h1, h2⟩ := z_st_ex hs
      rcases z_ex_W ha hc hW h2 with ⟨r, h3⟩ | ⟨c2, h3, h4⟩
      · cases h3
      · cases h3
        exact z_run_W ha hc n _ q h h4
theorem z_call_W : ∀ (d x : Nat) (as : List Value) (S : z_S) (q : z_Q), z_al x = false → z_call d x as S = some q → z_W S → z_W q.2
  | 0, x, as, S, q, _, h, _ => by cases h
  | d + 1, x, as, S, q, ha, h, hW => by
    by_cases hl : (z_args as).length ≤ z_mL x
    · rw [z_call_ev hl] at h
      obtain ⟨n, hn⟩ := z_ev_some h
      exact z_run_W ha (fun x as S q h1 h2 h3 => z_call_W d x as S q h1 h2 h3) n _ q hn hW
    · have h0 : (if (z_args as).length ≤ z_mL x then z_lim (fun n => z_run z_X0 (z_call d) x n (0, z_en (z_mL x) as, [], S)) else none) = some q := h
      rw [if_neg hl] at h0
      cases h0
def z_d3 : DecidableEq (Option (List Nat) × List Nat × Nat × Nat × Nat × Int) := inferInstance
def z_d4 : DecidableEq (Nat × Option (List Nat) × List Nat × Nat × Nat × Nat × Int) := @instDecidableEqProd _ _ inferInstance z_d3
def z_d5 : DecidableEq z_En := @instDecidableEqProd _ _ inferInstance z_d4
def z_d6 : DecidableEq (Option z_En) := by
  letI := z_d5
  exact inferInstance
theorem z_ftd {mi pc : Nat} {e : z_En} (h : @decide (z_ft mi pc = some e) (z_d6 _ _) = true) : z_ft mi pc = some e := @of_decide_eq_true _ (z_d6 _ _) h
/-! answers -/
def kI (q : z_Q) : Option (Int32 × z_S) := match q.1 with
  | some (.int v) => some (v, q.2)
  | _ => none
def kL (q : z_Q) : Option (Int64 × z_S) := match q.1 with
  | some (.long v) => some (v, q.2)
  | _ => none
def kV (q : z_Q) : Option z_S := match q.1 with
  | none => some q.2
  | _ => none
/-- a method's answer -/
noncomputable def fI (d mi : Nat) (as : List Value) (S : z_S) : Option (Int32 × z_S) := (z_call d mi as S).bind kI
noncomputable def fL (d mi : Nat) (as : List Value) (S : z_S) : Option (Int64 × z_S) := (z_call d mi as S).bind kL
noncomputable def fV (d mi : Nat) (as : List Value) (S : z_S) : Option z_S := (z_call d mi as S).bind kV
theorem fI_en {d mi : Nat} {as : List Value} {S : z_S} (h : (z_args as).length ≤ z_mL mi) {ls : List Value} (hl : z_en (z_mL mi) as = ls) : fI (d + 1) mi as S = zk kI z_X0 d mi 0 ls [] S := by subst hl; unfold fI zk; rw [z_call_ev h]
theorem fL_en {d mi : Nat} {as : List Value} {S : z_S} (h : (z_args as).length ≤ z_mL mi) {ls : List Value} (hl : z_en (z_mL mi) as = ls) : fL (d + 1) mi as S = zk kL z_X0 d mi 0 ls [] S := by subst hl; unfold fL zk; rw [z_call_ev h]
theorem fV_en {d mi : Nat} {as : List Value} {S : z_S} (h : (z_args as).length ≤ z_mL mi) {ls : List Value} (hl : z_en (z_mL mi) as = ls) : fV (d + 1) mi as S = zk kV z_X0 d mi 0 ls [] S := by subst hl; unfold fV zk; rw [z_call_ev h]
theorem z_ite {α : Type} {c : Prop} [Decidable c] {a b a' b' : α} (h1 : c → a = a') (h2 : ¬ c → b = b') : (if c then a else b) = if c then a' else b' := by
  by_cases h : c
  · rw [if_pos h, if_pos h, h1 h]
  · rw [if_neg h, if_neg h, h2 h]
theorem z_bnd {α β : Type} {o : Option α} {f g : α → Option β} (h : ∀ q, o = some q → f q = g q) : o.bind f = o.bind g := by
  cases o with
  | none => rfl
  | some q => exact h q rfl
/-- a pair's bind -/
def zb {β γ δ : Type} (o : Option (β × γ)) (G : β → γ → Option δ) : Option δ := o.bind fun b => G b.1 b.2
section ZV
variable {α : Type} {k : z_Q → Option α} {X : Nat × (Nat → Int32)} {d mi pc : Nat} {ls st : List Value} {S : z_S} {mk : Option (List Nat)} {ts : List Nat} {x y w : Nat} {v : Int}
theorem k_getI {c n : Nat} (hf : z_ft mi pc = some (.getfield n, 3, mk, ts, x, y, w, v)) (hm : z_mk mk ls = ls) (hW : z_W S) (hc : z_K c = x) (hy : y < z_nf x) (ht : z_ty x y = 0 ∨ z_ty x y = 3) : zk k X d mi pc ls (.ref c :: st) S = zk k X d mi (pc + 3) ls (.int (gI S c y) :: st) S := by
  refine zk_go (c' := (pc + 3, ls, .int (gI S c y) :: st, S)) hf ?_
  rw [hm]
  have hx := z_nf_lt hy
  have hlt : c < z_sz S := by rw [hW.1]; exact z_K_lt (by omega)
  have hk : z_kd S c = x := by rw [hW.2.1]; exact hc
  show (z_rd X (.getfield n) x y (.ref c :: st) S).map _ = _
  unfold z_rd
  dsimp only
  rw [if_pos ⟨hlt, hk, hy⟩, if_pos ht]
  rfl
theorem k_getL {c n : Nat} (hf : z_ft mi pc = some (.getfield n, 3, mk, ts, x, y, w, v)) (hm : z_mk mk ls = ls) (hW : z_W S) (hc : z_K c = x) (hy : y < z_nf x) (ht : z_ty x y = 1) : zk k X d mi pc ls (.ref c :: st) S = zk k X d mi (pc + 3) ls (.long (gL S c y) :: st) S := by
  refine zk_go (c' := (pc + 3, ls, .long (gL S c y) :: st, S)) hf ?_
  rw [hm]
  have hx := z_nf_lt hy
  have hlt : c < z_sz S := by rw [hW.1]; exact z_K_lt (by omega)
  have hk : z_kd S c = x := by rw [hW.2.1]; exact hc
  show (z_rd X (.getfield n) x y (.ref c :: st) S).map _ = _
  unfold z_rd
  dsimp only
  rw [if_pos ⟨hlt, hk, hy⟩, if_neg (by omega), if_pos ht]
  rfl
theorem k_getR {c n a : Nat} (hf : z_ft mi pc = some (.getfield n, 3, mk, ts, x, y, w, v)) (hm : z_mk mk ls = ls) (hW : z_W S) (hc : z_K c = x) (hy : y < z_nf x) (ht : 4 ≤ z_ty x y) (hr : gR S c y = some a) : zk k X d mi pc ls (.ref c :: st) S = zk k X d mi (pc + 3) ls (.ref a :: st) S := by
  refine zk_go (c' := (pc + 3, ls, .ref a :: st, S)) hf ?_
  rw [hm]
  have hx := z_nf_lt hy
  have hlt : c < z_sz S := by rw [hW.1]; exact z_K_lt (by omega)
  have hk : z_kd S c = x := by rw [hW.2.1]; exact hc
  show (z_rd X (.getfield n) x y (.ref c :: st) S).map _ = _
  unfold z_rd
  dsimp only
  rw [if_pos ⟨hlt, hk, hy⟩, if_neg (by omega), if_neg (by omega), hr]
  rfl
theorem k_putI {c n : Nat} {a : Int32} (hf : z_ft mi pc = some (.putfield n, 3, mk, ts, x, y, w, v)) (hm : z_mk mk ls = ls) (hW : z_W S) (hc : z_K c = x) (hy : y < z_nf x) (hfi : z_fi x y = false) (ht : z_ty x y = 0) : zk k X d mi pc ls (.int a :: .ref c :: st) S = zk k X d mi (pc + 3) ls st (sI S c y a) := by
  refine zk_go (c' := (pc + 3, ls, st, sI S c y a)) hf ?_
  rw [hm]
  have hx := z_nf_lt hy
  have hlt : c < z_sz S := by rw [hW.1]; exact z_K_lt (by omega)
  have hk : z_kd S c = x := by rw [hW.2.1]; exact hc
  show (z_wr (z_al mi) (z_ow mi) (.putfield n) x y (.int a :: .ref c :: st) S).map _ = _
  unfold z_wr
  dsimp only
  rw [if_pos ⟨hlt, hk, hy, hfi, Or.inl ht⟩]
  rfl
theorem k_putL {c n : Nat} {a : Int64} (hf : z_ft mi pc = some (.putfield n, 3, mk, ts, x, y, w, v)) (hm : z_mk mk ls = ls) (hW : z_W S) (hc : z_K c = x) (hy : y < z_nf x) (hfi : z_fi x y = false) (ht : z_ty x y = 1) : zk k X d mi pc ls (.long a :: .ref c :: st) S = zk k X d mi (pc + 3) ls st (sL S c y a) := by
  refine zk_go (c' := (pc + 3, ls, st, sL S c y a)) hf ?_
  rw [hm]
  have hx := z_nf_lt hy
  have hlt : c < z_sz S := by rw [hW.1]; exact z_K_lt (by omega)
  have hk : z_kd S c = x := by rw [hW.2.1]; exact hc
  show (z_wr (z_al mi) (z_ow mi) (.putfield n) x y (.long a :: .ref c :: st) S).map _ = _
  unfold z_wr
  dsimp only
  rw [if_pos ⟨hlt, hk, hy, hfi, ht⟩]
  rfl
theorem k_putZ {c n : Nat} {a : Int32} (hf : z_ft mi pc = some (.putfield n, 3, mk, ts, x, y, w, v)) (hm : z_mk mk ls = ls) (hW : z_W S) (hc : z_K c = x) (hy : y < z_nf x) (hfi : z_fi x y = false) (ht : z_ty x y = 3) : zk k X d mi pc ls (.int a :: .ref c :: st) S = if a = 0 ∨ a = 1 then zk k X d mi (pc + 3) ls st (sI S c y a) else none := by
  have hx := z_nf_lt hy
  have hlt : c < z_sz S := by rw [hW.1]; exact z_K_lt (by omega)
  have hk : z_kd S c = x := by rw [hW.2.1]; exact hc
  by_cases ha : a = 0 ∨ a = 1
  · rw [if_pos ha]
    refine zk_go (c' := (pc + 3, ls, st, sI S c y a)) hf ?_
    rw [hm]
    show (z_wr (z_al mi) (z_ow mi) (.putfield n) x y (.int a :: .ref c :: st) S).map _ = _
    unfold z_wr
    dsimp only
    rw [if_pos ⟨hlt, hk, hy, hfi, Or.inr ⟨ht, ha⟩⟩]
    rfl
  · rw [if_neg ha]
    refine zk_no hf ?_
    rw [hm]
    show (z_wr (z_al mi) (z_ow mi) (.putfield n) x y (.int a :: .ref c :: st) S).map _ = _
    unfold z_wr
    dsimp only
    rw [if_neg (fun z => by rcases z.2.2.2.2 with q | q; omega; exact ha q.2)]
    rfl
theorem k_putR {c n a : Nat} (hf : z_ft mi pc = some (.putfield n, 3, mk, ts, x, y, w, v)) (hm : z_mk mk ls = ls) (hW : z_W S) (hc : z_K c = x) (hy : y < z_nf x) (hfi : z_fi x y = false) (ha : z_K a < 90) (ht : z_ty x y = 4 + z_K a) : zk k X d mi pc ls (.ref a :: .ref c :: st) S = zk k X d mi (pc + 3) ls st (sR S c y (some a)) := by
  refine zk_go (c' := (pc + 3, ls, st, sR S c y (some a))) hf ?_
  rw [hm]
  have hx := z_nf_lt hy
  have hlt : c < z_sz S := by rw [hW.1]; exact z_K_lt (by omega)
  have hla : a < z_sz S := by rw [hW.1]; exact z_K_lt (by omega)
  have hk : z_kd S c = x := by rw [hW.2.1]; exact hc
  have hka : z_kd S a = z_K a := by rw [hW.2.1]
  show (z_wr (z_al mi) (z_ow mi) (.putfield n) x y (.ref a :: .ref c :: st) S).map _ = _
  unfold z_wr
  dsimp only
  rw [if_pos ⟨hlt, hk, hy, Or.inl hfi, hla, by rw [hka]; exact ht⟩]
  rfl
theorem k_ald {i : Instr} {a N : Nat} {j : Int32} {u : Value} (hf : z_ft mi pc = some (i, 1, mk, ts, x, y, w, v)) (hm : z_mk mk ls = ls) (hg : z_gr i = 4) (hy : z_in j N → z_rd X i x y (.int j :: .ref a :: st) S = some (u :: st)) (hn : ¬ z_in j N → z_rd X i x y (.int j :: .ref a :: st) S = none) : zk k X d mi pc ls (.int j :: .ref a :: st) S = if z_in j N then zk k X d mi (pc + 1) ls (u :: st) S else none := by
  by_cases h : z_in j N
  · rw [if_pos h]
    refine zk_go (c' := (pc + 1, ls, u :: st, S)) hf ?_
    rw [hm]
    unfold z_ex
    simp only [hg]
    rw [hy h]
    rfl
  · rw [if_neg h]
    refine zk_no hf ?_
    rw [hm]
    unfold z_ex
    simp only [hg]
    rw [hn h]
    rfl
theorem k_iald {a N : Nat} {j : Int32} (hf : z_ft mi pc = some (.iaload, 1, mk, ts, x, y, w, v)) (hm : z_mk mk ls = ls) (hW : z_W S) (ha : z_K a = 20) (hN : z_Ln a = N) : zk k X d mi pc ls (.int j :: .ref a :: st) S = if z_in j N then zk k X d mi (pc + 1) ls (.int (gI S a j.toNatClampNeg) :: st) S else none := by
  have hlt : a < z_sz S := by rw [hW.1]; exact z_K_lt (by omega)
  have hk : z_kd S a = 20 := by rw [hW.2.1]; exact ha
  have hl : z_ln S a = N := by rw [hW.2.2.1]; exact hN
  exact k_ald hf hm rfl (fun h => by unfold z_rd; dsimp only; rw [if_pos ⟨hlt, hk, by rw [hl]; exact h⟩]) (fun h => by unfold z_rd; dsimp only; rw [if_neg (fun z => h (by have := z.2.2; rw [hl] at this; exact this))])
theorem k_lald {a N : Nat} {j : Int32} (hf : z_ft mi pc = some (.laload, 1, mk, ts, x, y, w, v)) (hm : z_mk mk ls = ls) (hW : z_W S) (ha : z_K a = 21) (hN : z_Ln a = N) : zk k X d mi pc ls (.int j :: .ref a :: st) S = if z_in j N then zk k X d mi (pc + 1) ls (.long (gL S a j.toNatClampNeg) :: st) S else none := by
  have hlt : a < z_sz S := by rw [hW.1]; exact z_K_lt (by omega)
  have hk : z_kd S a = 21 := by rw [hW.2.1]; exact ha
  have hl : z_ln S a = N := by rw [hW.2.2.1]; exact hN
  exact k_ald hf hm rfl (fun h => by unfold z_rd; dsimp only; rw [if_pos ⟨hlt, hk, by rw [hl]; exact h⟩]) (fun h => by unfold z_rd; dsimp only; rw [if_neg (fun z => h (by have := z.2.2; rw [hl] at this; exact this))])
theorem k_zald {a N : Nat} {j : Int32} (hf : z_ft mi pc = some (.baload, 1, mk, ts, x, y, w, v)) (hm : z_mk mk ls = ls) (hW : z_W S) (ha : z_K a = 22) (hN : z_Ln a = N) : zk k X d mi pc ls (.int j :: .ref a :: st) S = if z_in j N then zk k X d mi (pc + 1) ls (.int (gI S a j.toNatClampNeg) :: st) S else none := by
  have hlt : a < z_sz S := by rw [hW.1]; exact z_K_lt (by omega)
  have hk : z_kd S a = 22 := by rw [hW.2.1]; exact ha
  have hl : z_ln S a = N := by rw [hW.2.2.1]; exact hN
  exact k_ald hf hm rfl (fun h => by unfold z_rd; dsimp only; rw [if_pos ⟨hlt, hk, by rw [hl]; exact h⟩]) (fun h => by unfold z_rd; dsimp only; rw [if_neg (fun z => h (by have := z.2.2; rw [hl] at this; exact this))])
theorem k_aald {a N : Nat} {j : Int32} (hf : z_ft mi pc = some (.aaload, 1, mk, ts, x, y, w, v)) (hm : z_mk mk ls = ls) (hW : z_W S) (ha : z_K a = 23 ∨ z_K a = 24) (hN : z_Ln a = N) : zk k X d mi pc ls (.int j :: .ref a :: st) S = if z_in j N then zk k X d mi (pc + 1) ls (.ref (z_F a j.toNatClampNeg) :: st) S else none := by
  have hlt : a < z_sz S := by rw [hW.1]; exact z_K_lt (by omega)
  have hk : z_kd S a = 23 ∨ z_kd S a = 24 := by rw [hW.2.1]; exact ha
  have hl : z_ln S a = N := by rw [hW.2.2.1]; exact hN
  refine k_ald hf hm rfl (fun h => ?_) (fun h => by unfold z_rd; dsimp only; rw [if_neg (fun z => h (by have := z.2.2; rw [hl] at this; exact this))])
  unfold z_rd
  dsimp only
  have hr := hW.2.2.2.1 a j.toNatClampNeg (by unfold z_isF; exact decide_eq_true (Or.inr ⟨ha, by rw [hN]; exact Nat.not_le.mp fun q => h (Or.inr q)⟩))
  rw [if_pos ⟨hlt, hk, by rw [hl]; exact h⟩, hr]
theorem k_alen {a N : Nat} (hf : z_ft mi pc = some (.arraylength, 1, mk, ts, x, y, w, v)) (hm : z_mk mk ls = ls) (hW : z_W S) (ha : 20 ≤ z_K a ∧ z_K a ≤ 24) (hN : z_Ln a = N) : zk k X d mi pc ls (.ref a :: st) S = zk k X d mi (pc + 1) ls (.int (Int32.ofNat N) :: st) S := by
  have hlt : a < z_sz S := by rw [hW.1]; exact z_K_lt (by omega)
  have hk : 20 ≤ z_kd S a ∧ z_kd S a ≤ 24 := by rw [hW.2.1]; exact ha
  have hl : z_ln S a = N := by rw [hW.2.2.1]; exact hN
  refine zk_go (c' := (pc + 1, ls, .int (Int32.ofNat N) :: st, S)) hf ?_
  rw [hm]
  show (z_rd X .arraylength x y (.ref a :: st) S).map _ = _
  unfold z_rd
  dsimp only
  rw [if_pos ⟨hlt, hk⟩, hl]
  rfl
theorem k_ast {i : Instr} {a : Nat} {j : Int32} {u : Value} {C : Prop} [Decidable C] {S' : z_S} (hf : z_ft mi pc = some (i, 1, mk, ts, x, y, w, v)) (hm : z_mk mk ls = ls) (hg : z_gr i = 5) (hy : C → z_wr (z_al mi) (z_ow mi) i x y (u :: .int j :: .ref a :: st) S = some (st, S')) (hn : ¬ C → z_wr (z_al mi) (z_ow mi) i x y (u :: .int j :: .ref a :: st) S = none) : zk k X d mi pc ls (u :: .int j :: .ref a :: st) S = if C then zk k X d mi (pc + 1) ls st S' else none := by
  by_cases h : C
  · rw [if_pos h]
    refine zk_go (c' := (pc + 1, ls, st, S')) hf ?_
    rw [hm]
    unfold z_ex
    simp only [hg]
    rw [hy h]
    rfl
  · rw [if_neg h]
    refine zk_no hf ?_
    rw [hm]
    unfold z_ex
    simp only [hg]
    rw [hn h]
    rfl
theorem k_iast {a N : Nat} {j u : Int32} (hf : z_ft mi pc = some (.iastore, 1, mk, ts, x, y, w, v)) (hm : z_mk mk ls = ls) (hW : z_W S) (ha : z_K a = 20) (hN : z_Ln a = N) : zk k X d mi pc ls (.int u :: .int j :: .ref a :: st) S = if z_in j N then zk k X d mi (pc + 1) ls st (sI S a j.toNatClampNeg u) else none := by
  have hlt : a < z_sz S := by rw [hW.1]; exact z_K_lt (by omega)
  have hk : z_kd S a = 20 := by rw [hW.2.1]; exact ha
  have hl : z_ln S a = N := by rw [hW.2.2.1]; exact hN
  exact k_ast hf hm rfl (fun h => by unfold z_wr; dsimp only; rw [if_pos ⟨hlt, hk, by rw [hl]; exact h⟩]) (fun h => by unfold z_wr; dsimp only; rw [if_neg (fun z => h (by have := z.2.2; rw [hl] at this; exact this))])
theorem k_last {a N : Nat} {j : Int32} {u : Int64} (hf : z_ft mi pc = some (.lastore, 1, mk, ts, x, y, w, v)) (hm : z_mk mk ls = ls) (hW : z_W S) (ha : z_K a = 21) (hN : z_Ln a = N) : zk k X d mi pc ls (.long u :: .int j :: .ref a :: st) S = if z_in j N then zk k X d mi (pc + 1) ls st (sL S a j.toNatClampNeg u) else none := by
  have hlt : a < z_sz S := by rw [hW.1]; exact z_K_lt (by omega)
  have hk : z_kd S a = 21 := by rw [hW.2.1]; exact ha
  have hl : z_ln S a = N := by rw [hW.2.2.1]; exact hN
  exact k_ast hf hm rfl (fun h => by unfold z_wr; dsimp only; rw [if_pos ⟨hlt, hk, by rw [hl]; exact h⟩]) (fun h => by unfold z_wr; dsimp only; rw [if_neg (fun z => h (by have := z.2.2; rw [hl] at this; exact this))])
theorem k_zast {a N : Nat} {j u : Int32} (hf : z_ft mi pc = some (.bastore, 1, mk, ts, x, y, w, v)) (hm : z_mk mk ls = ls) (hW : z_W S) (ha : z_K a = 22) (hN : z_Ln a = N) : zk k X d mi pc ls (.int u :: .int j :: .ref a :: st) S = if z_in j N ∧ (u = 0 ∨ u = 1) then zk k X d mi (pc + 1) ls st (sI S a j.toNatClampNeg u) else none := by
  have hlt : a < z_sz S := by rw [hW.1]; exact z_K_lt (by omega)
  have hk : z_kd S a = 22 := by rw [hW.2.1]; exact ha
  have hl : z_ln S a = N := by rw [hW.2.2.1]; exact hN
  exact k_ast hf hm rfl (fun h => by unfold z_wr; dsimp only; rw [if_pos ⟨hlt, hk, by rw [hl]; exact h.1, h.2⟩]) (fun h => by unfold z_wr; dsimp only; rw [if_neg (fun z => h ⟨by have := z.2.2.1; rw [hl] at this; exact this, z.2.2.2⟩)])
theorem k_copy {n0 a b NA NB : Nat} {n sp dp : Int32} (hf : z_ft mi pc = some (.invokestatic n0, 3, mk, ts, x, y, w, v)) (hm : z_mk mk ls = ls) (hx : x = 901) (hW : z_W S) (hwt : z_wt st ≤ 8) (ha : z_K a = 20) (hb : z_K b = 20) (hNA : z_Ln a = NA) (hNB : z_Ln b = NB) : zk k X d mi pc ls (.int n :: .int dp :: .ref b :: .int sp :: .ref a :: st) S = if 0 ≤ n.toInt ∧ 0 ≤ sp.toInt ∧ 0 ≤ dp.toInt ∧ sp.toInt + n.toInt ≤ NA ∧ dp.toInt + n.toInt ≤ NB then zk k X d mi (pc + 3) ls st (cI S a sp.toNatClampNeg b dp.toNatClampNeg n.toNatClampNeg) else none := by
  subst hx
  have hla : a < z_sz S := by rw [hW.1]; exact z_K_lt (by omega)
  have hlb : b < z_sz S := by rw [hW.1]; exact z_K_lt (by omega)
  have hka : z_kd S a = 20 := by rw [hW.2.1]; exact ha
  have hkb : z_kd S b = 20 := by rw [hW.2.1]; exact hb
  have hna : z_ln S a = NA := by rw [hW.2.2.1]; exact hNA
  have hnb : z_ln S b = NB := by rw [hW.2.2.1]; exact hNB
  by_cases h : 0 ≤ n.toInt ∧ 0 ≤ sp.toInt ∧ 0 ≤ dp.toInt ∧ sp.toInt + n.toInt ≤ NA ∧ dp.toInt + n.toInt ≤ NB
  · rw [if_pos h]
    refine zk_go (c' := (pc + 3, ls, st, cI S a sp.toNatClampNeg b dp.toNatClampNeg n.toNatClampNeg)) hf ?_
    rw [hm]
    show (if z_wt st ≤ 8 ∧ a < z_sz S ∧ b < z_sz S ∧ z_kd S a = 20 ∧ z_kd S b = 20 ∧ 0 ≤ n.toInt ∧ 0 ≤ sp.toInt ∧ 0 ≤ dp.toInt ∧ sp.toInt + n.toInt ≤ z_ln S a ∧ dp.toInt + n.toInt ≤ z_ln S b then some (st, cI S a sp.toNatClampNeg b dp.toNatClampNeg n.toNatClampNeg) else none).map _ = _
    rw [if_pos ⟨hwt, hla, hlb, hka, hkb, h.1, h.2.1, h.2.2.1, by rw [hna]; exact h.2.2.2.1, by rw [hnb]; exact h.2.2.2.2⟩]
    rfl
  · rw [if_neg h]
    refine zk_no hf ?_
    rw [hm]
    show (if z_wt st ≤ 8 ∧ a < z_sz S ∧ b < z_sz S ∧ z_kd S a = 20 ∧ z_kd S b = 20 ∧ 0 ≤ n.toInt ∧ 0 ≤ sp.toInt ∧ 0 ≤ dp.toInt ∧ sp.toInt + n.toInt ≤ z_ln S a ∧ dp.toInt + n.toInt ≤ z_ln S b then some (st, cI S a sp.toNatClampNeg b dp.toNatClampNeg n.toNatClampNeg) else none).map _ = _
    rw [if_neg (fun z => h ⟨z.2.2.2.2.2.1, z.2.2.2.2.2.2.1, z.2.2.2.2.2.2.2.1, by have := z.2.2.2.2.2.2.2.2.1; rw [hna] at this; exact this, by have := z.2.2.2.2.2.2.2.2.2; rw [hnb] at this; exact this⟩)]
    rfl
/-- a call: what comes behind it may lean on the shape -/
theorem k_call {β : Type} {i : Instr} {as rest : List Value} {kc : z_Q → Option β} {push : β → List Value} {G : β → z_S → Option α} (stF : β → z_S) (hf : z_ft mi pc = some (i, 3, mk, ts, x, y, w, v)) (hm : z_mk mk ls = ls) (hg : z_gr i = 7) (hx : ¬ 900 ≤ x) (hst : st = as.reverse ++ rest) (hn : as.length = z_na x) (hwt : z_wt rest ≤ 8) (hiv : z_iv i x = true) (hrc : z_rc mi x as S = true) (hal : z_al x = false) (hW : z_W S)
    (hk1 : ∀ q : z_Q, z_ps (z_rk x) q.1 rest = none → kc q = none) (hk2 : ∀ (q : z_Q) (r : List Value), z_ps (z_rk x) q.1 rest = some r → ∃ b, kc q = some b ∧ r = push b ++ rest ∧ stF b = q.2)
    (hG : ∀ b, z_W (stF b) → zk k X d mi (pc + 3) ls (push b ++ rest) (stF b) = G b (stF b)) : zk k X d mi pc ls st S = ((z_call d x as S).bind kc).bind fun b => G b (stF b) := by
  have e1 : (st.take (z_na x)).reverse = as := by rw [hst, ← hn, ← List.length_reverse, List.take_left, List.reverse_reverse]
  have e2 : st.drop (z_na x) = rest := by rw [hst, ← hn, ← List.length_reverse, List.drop_left]
  have hlen : ¬ (st.length < z_na x ∨ 8 < z_wt (st.drop (z_na x))) := by
    rw [e2]
    rw [hst, List.length_append, List.length_reverse]
    omega
  have hgd : (z_iv i x && z_rc mi x (st.take (z_na x)).reverse S && (!z_al x || (z_al mi && z_clF (z_sz S) ls st))) = true := by
    rw [e1, hiv, hrc, hal]
    rfl
  have hex : z_ex X (z_call d) mi pc (i, 3, mk, ts, x, y, w, v) (z_mk mk ls) st S = (z_call d x as S).bind fun q => (z_ps (z_rk x) q.1 rest).map fun r => .inr (pc + 3, ls, r, q.2) := by
    rw [hm]
    unfold z_ex
    simp only [hg]
    rw [if_neg hx, if_neg hlen, if_pos hgd, e1, e2]
  cases hc : z_call d x as S with
  | none =>
    rw [hc] at hex
    rw [zk_no hf hex]
    rfl
  | some q =>
    rw [hc] at hex
    cases hp : z_ps (z_rk x) q.1 rest with
    | none =>
      have h1 : z_ex X (z_call d) mi pc (i, 3, mk, ts, x, y, w, v) (z_mk mk ls) st S = none := by rw [hex]; show (z_ps (z_rk x) q.1 rest).map _ = none; rw [hp]; rfl
      rw [zk_no hf h1]
      show none = (kc q).bind _
      rw [hk1 q hp]
      rfl
    | some r =>
      have h1 : z_ex X (z_call d) mi pc (i, 3, mk, ts, x, y, w, v) (z_mk mk ls) st S = some (.inr (pc + 3, ls, r, q.2)) := by rw [hex]; show (z_ps (z_rk x) q.1 rest).map _ = _; rw [hp]; rfl
      rw [zk_go hf h1]
      obtain ⟨b, g1, g2, g3⟩ := hk2 q r hp
      have hW' : z_W (stF b) := by rw [g3]; exact z_call_W d x as S q hal hc hW
      show zk k X d mi (pc + 3) ls r q.2 = (kc q).bind _
      rw [g1, g2, ← g3]
      exact hG b hW'
theorem k_callI {i : Instr} {as rest : List Value} {G : Int32 → z_S → Option α} (hf : z_ft mi pc = some (i, 3, mk, ts, x, y, w, v)) (hm : z_mk mk ls = ls) (hg : z_gr i = 7) (hx : ¬ 900 ≤ x) (hst : st = as.reverse ++ rest) (hn : as.length = z_na x) (hwt : z_wt rest ≤ 8) (hiv : z_iv i x = true) (hrc : z_rc mi x as S = true) (hal : z_al x = false) (hrk : z_rk x = 1 ∨ z_rk x = 3) (hW : z_W S)
    (hG : ∀ b S', z_W S' → zk k X d mi (pc + 3) ls (.int b :: rest) S' = G b S') : zk k X d mi pc ls st S = zb (fI d x as S) G := by
  refine k_call (kc := kI) (push := fun b => [.int b.1]) (G := fun b _ => G b.1 b.2) (fun b => b.2) hf hm hg hx hst hn hwt hiv hrc hal hW (fun q hq => ?_) (fun q r hr => ?_) (fun b hb => hG b.1 b.2 hb)
  · unfold kI
    unfold z_ps at hq
    split
    · rename_i v0 hv
      rw [hv] at hq
      dsimp only at hq
      rw [if_pos hrk] at hq
      cases hq
    · rfl
  · unfold kI
    unfold z_ps at hr
    split at hr
    · rename_i hv; rw [if_neg (by omega)] at hr; cases hr
    · rename_i v0 hv; rw [if_pos hrk] at hr; cases hr; exact ⟨(v0, q.2), by rw [hv], rfl, rfl⟩
    · rename_i v0 hv; rw [if_neg (by omega)] at hr; cases hr
    · cases hr
theorem k_callL {i : Instr} {as rest : List Value} {G : Int64 → z_S → Option α} (hf : z_ft mi pc = some (i, 3, mk, ts, x, y, w, v)) (hm : z_mk mk ls = ls) (hg : z_gr i = 7) (hx : ¬ 900 ≤ x) (hst : st = as.reverse ++ rest) (hn : as.length = z_na x) (hwt : z_wt rest ≤ 8) (hiv : z_iv i x = true) (hrc : z_rc mi x as S = true) (hal : z_al x = false) (hrk : z_rk x = 2) (hW : z_W S)
    (hG : ∀ b S', z_W S' → zk k X d mi (pc + 3) ls (.long b :: rest) S' = G b S') : zk k X d mi pc ls st S = zb (fL d x as S) G := by
  refine k_call (kc := kL) (push := fun b => [.long b.1]) (G := fun b _ => G b.1 b.2) (fun b => b.2) hf hm hg hx hst hn hwt hiv hrc hal hW (fun q hq => ?_) (fun q r hr => ?_) (fun b hb => hG b.1 b.2 hb)
  · unfold kL
    unfold z_ps at hq
    split
    · rename_i v0 hv
      rw [hv] at hq
      dsimp only at hq
      rw [if_pos hrk] at hq
      cases hq
    · rfl
  · unfold kL
    unfold z_ps at hr
    split at hr
    · rename_i hv; rw [if_neg (by omega)] at hr; cases hr
    · rename_i v0 hv; rw [if_neg (by omega)] at hr; cases hr
    · rename_i v0 hv; rw [if_pos hrk] at hr; cases hr; exact ⟨(v0, q.2), by rw [hv], rfl, rfl⟩
    · cases hr
theorem k_callV {i : Instr} {as rest : List Value} {G : z_S → Option α} (hf : z_ft mi pc = some (i, 3, mk, ts, x, y, w, v)) (hm : z_mk mk ls = ls) (hg : z_gr i = 7) (hx : ¬ 900 ≤ x) (hst : st = as.reverse ++ rest) (hn : as.length = z_na x) (hwt : z_wt rest ≤ 8) (hiv : z_iv i x = true) (hrc : z_rc mi x as S = true) (hal : z_al x = false) (hrk : z_rk x = 0) (hW : z_W S)
    (hG : ∀ S', z_W S' → zk k X d mi (pc + 3) ls rest S' = G S') : zk k X d mi pc ls st S = (fV d x as S).bind fun b => G b := by
  refine k_call (kc := kV) (push := fun _ => []) (G := fun b _ => G b) (fun b => b) hf hm hg hx hst hn hwt hiv hrc hal hW (fun q hq => ?_) (fun q r hr => ?_) (fun b hb => hG b hb)
  · unfold kV
    unfold z_ps at hq
    split
    · rename_i hv
      rw [hv] at hq
      dsimp only at hq
      rw [if_pos hrk] at hq
      cases hq
    · rfl
  · unfold kV
    unfold z_ps at hr
    split at hr
    · rename_i hv; rw [if_pos hrk] at hr; cases hr; exact ⟨q.2, by rw [hv], rfl, rfl⟩
    · rename_i v0 hv; rw [if_neg (by omega)] at hr; cases hr
    · rename_i v0 hv; rw [if_neg (by omega)] at hr; cases hr
    · cases hr
theorem k_zretC {a : Int32} (hf : z_ft mi pc = some (.ireturn, 1, mk, ts, x, y, w, v)) (hm : z_mk mk ls = ls) (hr : z_rk mi = 3) (ha : a = 0 ∨ a = 1) : zk k X d mi pc ls [.int a] S = k (some (.int a), S) := by rw [k_zreturn hf hm hr, if_pos ha]
theorem z_W.sI {S : z_S} (h : z_W S) {c n : Nat} {a : Int32} : z_W (sI S c n a) := h
theorem z_W.sL {S : z_S} (h : z_W S) {c n : Nat} {a : Int64} : z_W (sL S c n a) := h
theorem z_W.cI {S : z_S} (h : z_W S) {a b sp dp n : Nat} : z_W (cI S a sp b dp n) := h
theorem zk_swC {lo lo' : Int} {t df : Nat} {a n : Int32} (hn : Int32.ofInt lo = n) (hl : lo + 1 = lo') : zk k X d mi (z_sw lo (t :: ts) df a) ls st S = if a = n then zk k X d mi t ls st S else zk k X d mi (z_sw lo' ts df a) ls st S := by
  subst hn
  subst hl
  exact zk_sw
theorem z_rcS {mi x : Nat} {as : List Value} {S : z_S} (h : z_stc x = true) : z_rc mi x as S = true := by unfold z_rc; rw [if_pos h]
theorem z_rcV {mi x c : Nat} {as : List Value} {S : z_S} (hW : z_W S) (hk : z_K c = z_ow x) (h : z_ow x < 13) : z_rc mi x (.ref c :: as) S = true := by
  unfold z_rc
  split
  · rfl
  · exact decide_eq_true ⟨by rw [hW.1]; exact z_K_lt (by omega), by rw [hW.2.1]; exact hk⟩
end ZV
